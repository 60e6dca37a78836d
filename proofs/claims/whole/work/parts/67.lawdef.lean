/-! THE LAW: what it needs of the two states -/
/-- what the class's state always keeps -/
def hsI (σ : HS) : Prop := hsG σ ∧ hsK σ ∧ 1 ≤ σ.nl ∧ σ.nl ≤ 4 ∧ (∀ i, i < 150 → slM σ i = false → σ.T i 5 = 0) ∧ ∀ j, j < 10 → ¬ j < gN σ 6 → σ.A j 0 = 0
/-- what the model's methods ask -/
def moPre (ρ : MS) : Prop := moG ρ ∧ moWo ρ ∧ (∀ q, ρ.I 16 q = 0 ∨ ρ.I 16 q = 1) ∧ ∀ q, ρ.I 1 q = 0 ∨ ρ.I 1 q = 1
def geoP (σ : HS) (ρ : MS) : Prop := (∀ net, ptG σ.T net) ∧ plG σ ∧ ρ.s 1 = nI σ.nl ∧ (∃ g0, g0 < 5 ∧ ρ.s 2 = nI g0) ∧ moCv ρ ∧ moCw ρ ∧ (∀ ne, mPt ρ ne ∧ moPv ρ ne) ∧ ∀ t, 140 ≤ t → t < 150 → ¬ ρ.I 1 t = 0 → ∃ la0, la0 < 4 ∧ ρ.I 6 t = nI la0
def partM (ρ : MS) (pw ph x y side : Int32) (ans : Int32) (ρ' : MS) : Prop :=
  ans = (moPart ρ (mN ρ 2) (mN ρ 6) pw ph x y side).1 ∧ ρ' = (moPart ρ (mN ρ 2) (mN ρ 6) pw ph x y side).2
def padM (ρ : MS) (part net dx dy : Int32) (ans : Int32) (ρ' : MS) : Prop :=
  ans = (moPad ρ (mN ρ 3) (mN ρ 6) part net dx dy).1 ∧ ρ' = (moPad ρ (mN ρ 3) (mN ρ 6) part net dx dy).2
def viaM (ρ : MS) (net x y : Int32) (ans : Int32) (ρ' : MS) : Prop :=
  ans = (moVia ρ (mN ρ 3) (mN ρ 6) net x y).1 ∧ ρ' = (moVia ρ (mN ρ 3) (mN ρ 6) net x y).2
def trackM (ρ : MS) (net la x0 y0 x1 y1 : Int32) (ans : Int32) (ρ' : MS) : Prop :=
  ans = (moTrack ρ (mN ρ 4) (mN ρ 6) net la x0 y0 x1 y1).1 ∧ ρ' = (moTrack ρ (mN ρ 4) (mN ρ 6) net la x0 y0 x1 y1).2
def planeM (ρ : MS) (net la : Int32) (ans : Int32) (ρ' : MS) : Prop :=
  ans = (moPlane ρ (mN ρ 5) (mN ρ 6) net la).1 ∧ ρ' = (moPlane ρ (mN ρ 5) (mN ρ 6) net la).2
def moveM (ρ : MS) (part x y : Int32) (ans : Int32) (ρ' : MS) : Prop :=
  ans = (moMove ρ (mN ρ 2) (mN ρ 6) part x y).1 ∧ ρ' = (moMove ρ (mN ρ 2) (mN ρ 6) part x y).2
def dropM (ρ : MS) (h : Int32) (ans : Int32) (ρ' : MS) : Prop :=
  ans = (moDrop ρ (mN ρ 6) h).1 ∧ ρ' = (moDrop ρ (mN ρ 6) h).2
def gapM (ρ : MS) (v : Int32) (ans : Int32) (ρ' : MS) : Prop :=
  ans = (moGap ρ v).1 ∧ ρ' = (moGap ρ v).2
def islandsM (ρ : MS) (net : Int32) (ans : Int32) (ρ' : MS) : Prop :=
  (¬ moFault (ρ.I 0) net 1 = 0 ∧ ans = 0 ∧ ρ' = ρ.ws 0 (moFault (ρ.I 0) net 1)) ∨
  (moFault (ρ.I 0) net 1 = 0 ∧ ∃ nl g0 o f G c, 1 ≤ nl ∧ nl ≤ 4 ∧ ρ.s 1 = nI nl ∧ g0 < 5 ∧ ρ.s 2 = nI g0 ∧ ρ' = (((ρ.ws 0 0).wL 0 o).wL 1 f).wL 2 G ∧
    (∀ la, la < nl → isL ρ (net - net / 1000 * 1000) g0 (mN ρ 5) f la) ∧ islM ρ (net - net / 1000 * 1000) nl f 60 G c ∧ ans = nI c)
def nearM (ρ : MS) (q0 wh : Int32) (ans : Int32) (ρ' : MS) : Prop :=
  ((decide (wh = 0) || decide (wh = 1)) = false ∧ ans = 0 ∧ ρ' = ρ.ws 0 1) ∨
  ((decide (wh = 0) || decide (wh = 1)) = true ∧ ¬ 0 ≤ q0 ∧ ans = -1 ∧ ρ' = ρ.ws 0 0) ∨
  ((decide (wh = 0) || decide (wh = 1)) = true ∧ 0 ≤ q0 ∧ ans = moNrF ρ wh 20 120 q0.toNatClampNeg ∧ ρ' = ρ.ws 0 0)
def filledM (ρ : MS) (h : Int32) (ans : Int32) (ρ' : MS) : Prop :=
  (¬ moFF ρ h = 0 ∧ ans = 0 ∧ ρ' = ρ.ws 0 (moFF ρ h)) ∨
  (moFF ρ h = 0 ∧ ∃ la0 g0 G, la0 < 4 ∧ g0 < 5 ∧ ρ.s 2 = nI g0 ∧ ρ.I 6 (140 + hdN h) = nI la0 ∧ ρ' = (((ρ.ws 0 0).wL 0 (moLL (ρ.ws 0 0) (ρ.I 7 (140 + hdN h)) la0 g0 120).1).wL 1 (moLL (ρ.ws 0 0) (ρ.I 7 (140 + hdN h)) la0 g0 120).2).wL 2 G ∧
    lFin (moLL (ρ.ws 0 0) (ρ.I 7 (140 + hdN h)) la0 g0 120).2 (flS (moLL (ρ.ws 0 0) (ρ.I 7 (140 + hdN h)) la0 g0 120).1 (moLL (ρ.ws 0 0) (ρ.I 7 (140 + hdN h)) la0 g0 120).2 (ρ.L 2) (24 * la0) 24) G la0 ∧ ans = nI (cel la0 G))
def atM (ρ : MS) (h wh : Int32) (ans : Int32) (ρ' : MS) : Prop :=
  ans = (moAt ρ h wh).1 ∧ ρ' = (moAt ρ h wh).2
def countM (ρ : MS) (kd : Int32) (ans : Int32) (ρ' : MS) : Prop :=
  ((decide (2 ≤ kd) && decide (kd ≤ 5)) = false ∧ ans = 0 ∧ ρ' = ρ.ws 0 1) ∨
  ((decide (2 ≤ kd) && decide (kd ≤ 5)) = true ∧ ans = nI (cntF (moThP ρ.I) (fiN kd.toNatClampNeg) (mN ρ kd.toNatClampNeg)) ∧ ρ' = ρ.ws 0 0)
def workM (ρ : MS) (h : Int32) (ans : Int32) (ρ' : MS) : Prop :=
  ans = (moWork ρ h).1 ∧ ρ' = (moWork ρ h).2
def endM (ρ : MS) (h kp : Int32) (ans : Int32) (ρ' : MS) : Prop :=
  ans = (moEnd ρ h kp).1 ∧ ρ' = (moEnd ρ h kp).2
def versionM (ρ : MS) (ans : Int32) (ρ' : MS) : Prop :=
  (anyF (moOpn ρ.I) 0 10 = true ∧ ans = 0 ∧ ρ' = ρ.ws 0 1) ∨
  (anyF (moOpn ρ.I) 0 10 = false ∧ ρ.I 0 7 = nI (liN 7) ∧ ans = -1 ∧ ρ' = (ρ.ws 0 0).ws 3 1) ∨
  (anyF (moOpn ρ.I) 0 10 = false ∧ ¬ ρ.I 0 7 = nI (liN 7) ∧ ans = 7000 + nI (mN ρ 7) ∧ ∃ g0 g1 g2 g3, ρ' = moVrS ρ g0 g1 g2 g3 ∧ moVrP ρ (mN ρ 7) g0 g1 g2 g3)
def backM (ρ : MS) (h : Int32) (ans : Int32) (ρ' : MS) : Prop :=
  ans = (moBack ρ h).1 ∧ ρ' = (moBack ρ h).2
def ok_part (J : HS → MS → Prop) : Prop := ∀ σ ρ, hsI σ → J σ ρ → ∀ (pw ph x y side : Int32), ∀ r a σ' ans ρ', partR σ pw ph x y side r a σ' → partM ρ pw ph x y side ans ρ' → J σ' ρ' ∧ ρ'.s 0 = r ∧ (r = 0 → a = ans.toInt64)
def ok_pad (J : HS → MS → Prop) : Prop := ∀ σ ρ, hsI σ → J σ ρ → ∀ (part net dx dy : Int32), ∀ r a σ' ans ρ', padR σ part net dx dy r a σ' → padM ρ part net dx dy ans ρ' → J σ' ρ' ∧ ρ'.s 0 = r ∧ (r = 0 → a = ans.toInt64)
def ok_via (J : HS → MS → Prop) : Prop := ∀ σ ρ, hsI σ → J σ ρ → ∀ (net x y : Int32), ∀ r a σ' ans ρ', viaR σ net x y r a σ' → viaM ρ net x y ans ρ' → J σ' ρ' ∧ ρ'.s 0 = r ∧ (r = 0 → a = ans.toInt64)
def ok_track (J : HS → MS → Prop) : Prop := ∀ σ ρ, hsI σ → J σ ρ → ∀ (net la x0 y0 x1 y1 : Int32), ∀ r a σ' ans ρ', trackR σ net la x0 y0 x1 y1 r a σ' → trackM ρ net la x0 y0 x1 y1 ans ρ' → J σ' ρ' ∧ ρ'.s 0 = r ∧ (r = 0 → a = ans.toInt64)
def ok_plane (J : HS → MS → Prop) : Prop := ∀ σ ρ, hsI σ → J σ ρ → ∀ (net la : Int32), ∀ r a σ' ans ρ', planeR σ net la r a σ' → planeM ρ net la ans ρ' → J σ' ρ' ∧ ρ'.s 0 = r ∧ (r = 0 → a = ans.toInt64)
def ok_move (J : HS → MS → Prop) : Prop := ∀ σ ρ, hsI σ → J σ ρ → ∀ (part x y : Int32), ∀ r a σ' ans ρ', moveR σ part x y r a σ' → moveM ρ part x y ans ρ' → J σ' ρ' ∧ ρ'.s 0 = r ∧ (r = 0 → a = if ans = 0 then 0 else 1)
def ok_drop (J : HS → MS → Prop) : Prop := ∀ σ ρ, hsI σ → J σ ρ → ∀ (h : Int32), ∀ r a σ' ans ρ', dropR σ h r a σ' → dropM ρ h ans ρ' → J σ' ρ' ∧ ρ'.s 0 = r ∧ (r = 0 → a = if ans = 0 then 0 else 1)
def ok_gap (J : HS → MS → Prop) : Prop := ∀ σ ρ, hsI σ → J σ ρ → ∀ (v : Int32), ∀ r a σ' ans ρ', gapR σ v r a σ' → gapM ρ v ans ρ' → J σ' ρ' ∧ ρ'.s 0 = r ∧ (r = 0 → a = ans.toInt64)
def ok_islands (J : HS → MS → Prop) : Prop := ∀ σ ρ, hsI σ → J σ ρ → ∀ (net : Int32), ∀ r a σ' ans ρ', islandsR σ net r a σ' → islandsM ρ net ans ρ' → J σ' ρ' ∧ ρ'.s 0 = r ∧ (r = 0 → a = ans.toInt64)
def ok_near (J : HS → MS → Prop) : Prop := ∀ σ ρ, hsI σ → J σ ρ → ∀ (q0 wh : Int32), ∀ r a σ' ans ρ', nearR σ q0 wh r a σ' → nearM ρ q0 wh ans ρ' → J σ' ρ' ∧ ρ'.s 0 = r ∧ (r = 0 → a = ans.toInt64)
def ok_filled (J : HS → MS → Prop) : Prop := ∀ σ ρ, hsI σ → J σ ρ → ∀ (h : Int32), ∀ r a σ' ans ρ', filledR σ h r a σ' → filledM ρ h ans ρ' → J σ' ρ' ∧ ρ'.s 0 = r ∧ (r = 0 → a = ans.toInt64)
def ok_at (J : HS → MS → Prop) : Prop := ∀ σ ρ, hsI σ → J σ ρ → ∀ (h wh : Int32), ∀ r a σ' ans ρ', atR σ h wh r a σ' → atM ρ h wh ans ρ' → J σ' ρ' ∧ ρ'.s 0 = r ∧ (r = 0 → a = ans.toInt64)
def ok_count (J : HS → MS → Prop) : Prop := ∀ σ ρ, hsI σ → J σ ρ → ∀ (kd : Int32), ∀ r a σ' ans ρ', countR σ kd r a σ' → countM ρ kd ans ρ' → J σ' ρ' ∧ ρ'.s 0 = r ∧ (r = 0 → a = ans.toInt64)
def ok_work (J : HS → MS → Prop) : Prop := ∀ σ ρ, hsI σ → J σ ρ → ∀ (h : Int32), ∀ r a σ' ans ρ', workR σ h r a σ' → workM ρ h ans ρ' → J σ' ρ' ∧ ρ'.s 0 = r ∧ (r = 0 → a = if ans = 0 then 0 else 1)
def ok_end (J : HS → MS → Prop) : Prop := ∀ σ ρ, hsI σ → J σ ρ → ∀ (h kp : Int32), ∀ r a σ' ans ρ', endR σ h kp r a σ' → endM ρ h kp ans ρ' → J σ' ρ' ∧ ρ'.s 0 = r ∧ (r = 0 → a = ans.toInt64)
def ok_version (J : HS → MS → Prop) : Prop := ∀ σ ρ, hsI σ → J σ ρ → ∀ r a σ' ans ρ', versionR σ  r a σ' → versionM ρ  ans ρ' → J σ' ρ' ∧ ρ'.s 0 = r ∧ (r = 0 → a = ans.toInt64)
def ok_back (J : HS → MS → Prop) : Prop := ∀ σ ρ, hsI σ → J σ ρ → ∀ (h : Int32), ∀ r a σ' ans ρ', backR σ h r a σ' → backM ρ h ans ρ' → J σ' ρ' ∧ ρ'.s 0 = r ∧ (r = 0 → a = ans.toInt64)
def ok_net (J : HS → MS → Prop) : Prop := ∀ σ ρ, hsI σ → J σ ρ → J (ntP σ).2 (moNet ρ).2 ∧ (ntP σ).1 = (moNet ρ).1
def ok_check (J : HS → MS → Prop) : Prop := ∀ σ ρ, hsI σ → J σ ρ → J σ (ρ.ws 0 0) ∧ szF (cpF σ.T σ.g) 20 120 = nI (sumN (moCkR ρ) 20 120)
def ok_begin (J : HS → MS → Prop) : Prop := ∀ σ ρ, hsI σ → J σ ρ → ∀ (x y u v : Int32) Z', (∀ i, i < 150 → Z' i = -1) → J (bgP σ Z' x y u v).2 (moBegin ρ (mN ρ 6) x y u v).2 ∧ (bgP σ Z' x y u v).1 = (moBegin ρ (mN ρ 6) x y u v).1
def ok_told (J : HS → MS → Prop) : Prop := ∀ σ ρ, hsI σ → J σ ρ → J σ (ρ.ws 0 0) ∧ σ.rs = ρ.s 3
def ok_start (J : HS → MS → Prop) : Prop := ∀ la gp n, lyC la = nI n → 1 ≤ n → n ≤ 4 → J (hs0 n (gpC gp)) (ms0 (mlC la) (mgC gp))
def ok_pre (J : HS → MS → Prop) : Prop := ∀ σ ρ, hsI σ → J σ ρ → moPre ρ ∧ geoP σ ρ
def lawOk (J : HS → MS → Prop) : Prop := ok_part J ∧ ok_pad J ∧ ok_via J ∧ ok_track J ∧ ok_plane J ∧ ok_move J ∧ ok_drop J ∧ ok_gap J ∧ ok_islands J ∧ ok_near J ∧ ok_filled J ∧ ok_at J ∧ ok_count J ∧ ok_work J ∧ ok_end J ∧ ok_version J ∧ ok_back J ∧ ok_net J ∧ ok_check J ∧ ok_begin J ∧ ok_told J ∧ ok_start J ∧ ok_pre J
