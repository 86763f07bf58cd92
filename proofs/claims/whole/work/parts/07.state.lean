-- printed by program (gen/)
-- the states: products, with readers and setters
def st_n (f : Nat → Nat) (k v : Nat) : Nat → Nat := fun j => if j = k then v else f j
def st_a (f : Nat → Nat → Int32) (k : Nat) (v : Nat → Int32) : Nat → Nat → Int32 := fun j => if j = k then v else f j
abbrev XS : Type := (Nat → Nat) × (Nat → Nat → Int32)
def xn (S : XS) : Nat := S.1 0
def xn_s (S : XS) (v : Nat) : XS := (st_n S.1 0 v, S.2)
def xr (S : XS) : Nat := S.1 1
def xr_s (S : XS) (v : Nat) : XS := (st_n S.1 1 v, S.2)
def xa (S : XS) : Nat := S.1 2
def xa_s (S : XS) (v : Nat) : XS := (st_n S.1 2 v, S.2)
def xp (S : XS) : Nat := S.1 3
def xp_s (S : XS) (v : Nat) : XS := (st_n S.1 3 v, S.2)
def xtd (S : XS) : Int32 := S.2 100 0
def xtd_s (S : XS) (v : Int32) : XS := (S.1, st_a S.2 100 (fun _ => v))
def xnum (S : XS) : Nat → Int32 := S.2 1
def xnum_s (S : XS) (v : Nat → Int32) : XS := (S.1, st_a S.2 1 v)
def xspec (S : XS) : Nat → Int32 := S.2 2
def xspec_s (S : XS) (v : Nat → Int32) : XS := (S.1, st_a S.2 2 v)
def xup (S : XS) : Nat → Int32 := S.2 3
def xup_s (S : XS) (v : Nat → Int32) : XS := (S.1, st_a S.2 3 v)
def xdown (S : XS) : Nat → Int32 := S.2 4
def xdown_s (S : XS) (v : Nat → Int32) : XS := (S.1, st_a S.2 4 v)
def xkw (S : XS) : Nat → Int32 := S.2 5
def xkw_s (S : XS) (v : Nat → Int32) : XS := (S.1, st_a S.2 5 v)
def xfw (S : XS) : Nat → Int32 := S.2 6
def xfw_s (S : XS) (v : Nat → Int32) : XS := (S.1, st_a S.2 6 v)
def xlw (S : XS) : Nat → Int32 := S.2 7
def xlw_s (S : XS) (v : Nat → Int32) : XS := (S.1, st_a S.2 7 v)
def xgv (S : XS) : Nat → Int32 := S.2 8
def xgv_s (S : XS) (v : Nat → Int32) : XS := (S.1, st_a S.2 8 v)
def xod (S : XS) : Nat → Int32 := S.2 9
def xod_s (S : XS) (v : Nat → Int32) : XS := (S.1, st_a S.2 9 v)
def xpc (S : XS) : Nat → Int32 := S.2 10
def xpc_s (S : XS) (v : Nat → Int32) : XS := (S.1, st_a S.2 10 v)
def xp1 (S : XS) : Nat → Int32 := S.2 11
def xp1_s (S : XS) (v : Nat → Int32) : XS := (S.1, st_a S.2 11 v)
def xp2 (S : XS) : Nat → Int32 := S.2 12
def xp2_s (S : XS) (v : Nat → Int32) : XS := (S.1, st_a S.2 12 v)
def xpu (S : XS) : Nat → Int32 := S.2 13
def xpu_s (S : XS) (v : Nat → Int32) : XS := (S.1, st_a S.2 13 v)
abbrev MS : Type := (Nat → Nat) × (Nat → Nat → Int32)
def mth (S : MS) : Nat := S.1 0
def mth_s (S : MS) (v : Nat) : MS := (st_n S.1 0 v, S.2)
def mn (S : MS) : Nat := S.1 1
def mn_s (S : MS) (v : Nat) : MS := (st_n S.1 1 v, S.2)
def mr (S : MS) : Nat := S.1 2
def mr_s (S : MS) (v : Nat) : MS := (st_n S.1 2 v, S.2)
def mp (S : MS) : Nat := S.1 3
def mp_s (S : MS) (v : Nat) : MS := (st_n S.1 3 v, S.2)
def mtu (S : MS) : Nat := S.1 4
def mtu_s (S : MS) (v : Nat) : MS := (st_n S.1 4 v, S.2)
def mtd (S : MS) : Int32 := S.2 100 0
def mtd_s (S : MS) (v : Int32) : MS := (S.1, st_a S.2 100 (fun _ => v))
def mwf (S : MS) : Int32 := S.2 101 0
def mwf_s (S : MS) (v : Int32) : MS := (S.1, st_a S.2 101 (fun _ => v))
def mnum (S : MS) : Nat → Int32 := S.2 1
def mnum_s (S : MS) (v : Nat → Int32) : MS := (S.1, st_a S.2 1 v)
def mspec (S : MS) : Nat → Int32 := S.2 2
def mspec_s (S : MS) (v : Nat → Int32) : MS := (S.1, st_a S.2 2 v)
def mup (S : MS) : Nat → Int32 := S.2 3
def mup_s (S : MS) (v : Nat → Int32) : MS := (S.1, st_a S.2 3 v)
def mdown (S : MS) : Nat → Int32 := S.2 4
def mdown_s (S : MS) (v : Nat → Int32) : MS := (S.1, st_a S.2 4 v)
def mra (S : MS) : Nat → Int32 := S.2 5
def mra_s (S : MS) (v : Nat → Int32) : MS := (S.1, st_a S.2 5 v)
def mrc (S : MS) : Nat → Int32 := S.2 6
def mrc_s (S : MS) (v : Nat → Int32) : MS := (S.1, st_a S.2 6 v)
def mrk (S : MS) : Nat → Int32 := S.2 7
def mrk_s (S : MS) (v : Nat → Int32) : MS := (S.1, st_a S.2 7 v)
def mgv (S : MS) : Nat → Int32 := S.2 8
def mgv_s (S : MS) (v : Nat → Int32) : MS := (S.1, st_a S.2 8 v)
def mtn (S : MS) : Nat → Int32 := S.2 9
def mtn_s (S : MS) (v : Nat → Int32) : MS := (S.1, st_a S.2 9 v)
def mpc (S : MS) : Nat → Int32 := S.2 10
def mpc_s (S : MS) (v : Nat → Int32) : MS := (S.1, st_a S.2 10 v)
def mp1 (S : MS) : Nat → Int32 := S.2 11
def mp1_s (S : MS) (v : Nat → Int32) : MS := (S.1, st_a S.2 11 v)
def mp2 (S : MS) : Nat → Int32 := S.2 12
def mp2_s (S : MS) (v : Nat → Int32) : MS := (S.1, st_a S.2 12 v)
def mpu (S : MS) : Nat → Int32 := S.2 13
def mpu_s (S : MS) (v : Nat → Int32) : MS := (S.1, st_a S.2 13 v)
def mlv (S : MS) : Nat → Int32 := S.2 14
def mlv_s (S : MS) (v : Nat → Int32) : MS := (S.1, st_a S.2 14 v)
def mwl (S : MS) : Nat → Int32 := S.2 15
def mwl_s (S : MS) (v : Nat → Int32) : MS := (S.1, st_a S.2 15 v)
def mwo (S : MS) : Nat → Int32 := S.2 16
def mwo_s (S : MS) (v : Nat → Int32) : MS := (S.1, st_a S.2 16 v)
def mwq (S : MS) : Nat → Int32 := S.2 17
def mwq_s (S : MS) (v : Nat → Int32) : MS := (S.1, st_a S.2 17 v)
def mwa (S : MS) : Nat → Int32 := S.2 18
def mwa_s (S : MS) (v : Nat → Int32) : MS := (S.1, st_a S.2 18 v)
def mwm (S : MS) : Nat → Int32 := S.2 19
def mwm_s (S : MS) (v : Nat → Int32) : MS := (S.1, st_a S.2 19 v)
def mwb (S : MS) : Nat → Int32 := S.2 20
def mwb_s (S : MS) (v : Nat → Int32) : MS := (S.1, st_a S.2 20 v)
abbrev XI (S : XS) : Prop := xn S ≤ 12 ∧ xr S ≤ 60 ∧ xa S ≤ 5 ∧ xp S ≤ 20
abbrev MI (S : MS) : Prop := mn S ≤ 12 ∧ mr S ≤ 60 ∧ mp S ≤ 20 ∧ (∀ j, j < mp S → vp_in (mp1 S j / nI 4) 5) ∧ ∀ j, j < mp S → ¬ mp2 S j < 0 → vp_in (mp2 S j / nI 4) 5
-- the worlds
theorem va_D_addr {A : Nat → Prop} {ws ws2 : va_W} (e : ws.map Prod.fst = ws2.map Prod.fst) (h : va_D A ws) : va_D A ws2 := by
  have key : ∀ (k : Nat) (q : Nat × va_E), ws2[k]? = some q → ∃ q1, ws[k]? = some q1 ∧ q1.1 = q.1 := by
    intro k q hq
    have h1 : (ws2.map Prod.fst)[k]? = some q.1 := by rw [List.getElem?_map, hq]; rfl
    rw [← e, List.getElem?_map] at h1
    cases h2 : ws[k]? with
    | none => rw [h2] at h1; cases h1
    | some q1 => rw [h2] at h1; exact ⟨q1, rfl, Option.some.inj h1⟩
  refine ⟨fun i j p q hp hq he => ?_, fun k q hq => ?_⟩
  · obtain ⟨p1, hp1, ep⟩ := key i p hp
    obtain ⟨q1, hq1, eq⟩ := key j q hq
    exact h.1 i j p1 q1 hp1 hq1 (by rw [ep, eq]; exact he)
  · obtain ⟨q1, hq1, eq⟩ := key k q hq
    rw [← eq]; exact h.2 k q1 hq1
def wX (ad : Nat → Nat) (cI : Nat → ClassId) (S : XS) : va_W := [(ad 0, .inr (0, [.int (nI (xn S)), .ref (ad 1), .ref (ad 2), .ref (ad 3), .ref (ad 4), .int (nI (xr S)), .ref (ad 5), .ref (ad 6), .ref (ad 7), .int (nI (xa S)), .ref (ad 8), .ref (ad 9), .int (nI (xp S)), .ref (ad 10), .ref (ad 11), .ref (ad 12), .ref (ad 13), .int (xtd S)])), (ad 1, .inl (cI 1, 12, .inl (xnum S))), (ad 2, .inl (cI 2, 12, .inl (xspec S))), (ad 3, .inl (cI 3, 12, .inl (xup S))), (ad 4, .inl (cI 4, 12, .inl (xdown S))), (ad 5, .inl (cI 5, 20, .inl (xkw S))), (ad 6, .inl (cI 6, 20, .inl (xfw S))), (ad 7, .inl (cI 7, 20, .inl (xlw S))), (ad 8, .inl (cI 8, 5, .inl (xgv S))), (ad 9, .inl (cI 9, 5, .inl (xod S))), (ad 10, .inl (cI 10, 20, .inl (xpc S))), (ad 11, .inl (cI 11, 20, .inl (xp1 S))), (ad 12, .inl (cI 12, 20, .inl (xp2 S))), (ad 13, .inl (cI 13, 20, .inl (xpu S)))]
def bX (dC : Nat → ClassId) (dI : Nat → Nat → Nat) (ad : Nat → Nat) (cI : Nat → ClassId) (S : XS) (U : State) : Prop := va_P (dC, dI) classes (wX ad cI S) U.heap ∧ va_K (dC, dI) classes [(cI 1, .int), (cI 2, .int), (cI 3, .int), (cI 4, .int), (cI 5, .int), (cI 6, .int), (cI 7, .int), (cI 8, .int), (cI 9, .int), (cI 10, .int), (cI 11, .int), (cI 12, .int), (cI 13, .int)] U
def buX (dC : Nat → ClassId) (dI : Nat → Nat → Nat) (ad : Nat → Nat) (cI : Nat → ClassId) (sz : Nat) (S : XS) (U : State) : Prop := U.heap.size = sz ∧ bX dC dI ad cI S U ∧ va_D (fun _ => True) (wX ad cI S)
theorem sP_xn {dC : Nat → ClassId} {dI : Nat → Nat → Nat} {ad : Nat → Nat} {cI : Nat → ClassId} {H : Heap} {S : XS} {v : Nat} (h : va_P (dC, dI) classes (List.set (wX ad cI S) 0 (ad 0, .inr (0, List.set [.int (nI (xn S)), .ref (ad 1), .ref (ad 2), .ref (ad 3), .ref (ad 4), .int (nI (xr S)), .ref (ad 5), .ref (ad 6), .ref (ad 7), .int (nI (xa S)), .ref (ad 8), .ref (ad 9), .int (nI (xp S)), .ref (ad 10), .ref (ad 11), .ref (ad 12), .ref (ad 13), .int (xtd S)] 0 (.int (nI v))))) H) : va_P (dC, dI) classes (wX ad cI (xn_s S v)) H := h
theorem sD_xn {ad : Nat → Nat} {cI : Nat → ClassId} {A : Nat → Prop} {S : XS} {v : Nat} (h : va_D A (List.set (wX ad cI S) 0 (ad 0, .inr (0, List.set [.int (nI (xn S)), .ref (ad 1), .ref (ad 2), .ref (ad 3), .ref (ad 4), .int (nI (xr S)), .ref (ad 5), .ref (ad 6), .ref (ad 7), .int (nI (xa S)), .ref (ad 8), .ref (ad 9), .int (nI (xp S)), .ref (ad 10), .ref (ad 11), .ref (ad 12), .ref (ad 13), .int (xtd S)] 0 (.int (nI v)))))) : va_D A (wX ad cI (xn_s S v)) := h
theorem sP_xr {dC : Nat → ClassId} {dI : Nat → Nat → Nat} {ad : Nat → Nat} {cI : Nat → ClassId} {H : Heap} {S : XS} {v : Nat} (h : va_P (dC, dI) classes (List.set (wX ad cI S) 0 (ad 0, .inr (0, List.set [.int (nI (xn S)), .ref (ad 1), .ref (ad 2), .ref (ad 3), .ref (ad 4), .int (nI (xr S)), .ref (ad 5), .ref (ad 6), .ref (ad 7), .int (nI (xa S)), .ref (ad 8), .ref (ad 9), .int (nI (xp S)), .ref (ad 10), .ref (ad 11), .ref (ad 12), .ref (ad 13), .int (xtd S)] 5 (.int (nI v))))) H) : va_P (dC, dI) classes (wX ad cI (xr_s S v)) H := h
theorem sD_xr {ad : Nat → Nat} {cI : Nat → ClassId} {A : Nat → Prop} {S : XS} {v : Nat} (h : va_D A (List.set (wX ad cI S) 0 (ad 0, .inr (0, List.set [.int (nI (xn S)), .ref (ad 1), .ref (ad 2), .ref (ad 3), .ref (ad 4), .int (nI (xr S)), .ref (ad 5), .ref (ad 6), .ref (ad 7), .int (nI (xa S)), .ref (ad 8), .ref (ad 9), .int (nI (xp S)), .ref (ad 10), .ref (ad 11), .ref (ad 12), .ref (ad 13), .int (xtd S)] 5 (.int (nI v)))))) : va_D A (wX ad cI (xr_s S v)) := h
theorem sP_xa {dC : Nat → ClassId} {dI : Nat → Nat → Nat} {ad : Nat → Nat} {cI : Nat → ClassId} {H : Heap} {S : XS} {v : Nat} (h : va_P (dC, dI) classes (List.set (wX ad cI S) 0 (ad 0, .inr (0, List.set [.int (nI (xn S)), .ref (ad 1), .ref (ad 2), .ref (ad 3), .ref (ad 4), .int (nI (xr S)), .ref (ad 5), .ref (ad 6), .ref (ad 7), .int (nI (xa S)), .ref (ad 8), .ref (ad 9), .int (nI (xp S)), .ref (ad 10), .ref (ad 11), .ref (ad 12), .ref (ad 13), .int (xtd S)] 9 (.int (nI v))))) H) : va_P (dC, dI) classes (wX ad cI (xa_s S v)) H := h
theorem sD_xa {ad : Nat → Nat} {cI : Nat → ClassId} {A : Nat → Prop} {S : XS} {v : Nat} (h : va_D A (List.set (wX ad cI S) 0 (ad 0, .inr (0, List.set [.int (nI (xn S)), .ref (ad 1), .ref (ad 2), .ref (ad 3), .ref (ad 4), .int (nI (xr S)), .ref (ad 5), .ref (ad 6), .ref (ad 7), .int (nI (xa S)), .ref (ad 8), .ref (ad 9), .int (nI (xp S)), .ref (ad 10), .ref (ad 11), .ref (ad 12), .ref (ad 13), .int (xtd S)] 9 (.int (nI v)))))) : va_D A (wX ad cI (xa_s S v)) := h
theorem sP_xp {dC : Nat → ClassId} {dI : Nat → Nat → Nat} {ad : Nat → Nat} {cI : Nat → ClassId} {H : Heap} {S : XS} {v : Nat} (h : va_P (dC, dI) classes (List.set (wX ad cI S) 0 (ad 0, .inr (0, List.set [.int (nI (xn S)), .ref (ad 1), .ref (ad 2), .ref (ad 3), .ref (ad 4), .int (nI (xr S)), .ref (ad 5), .ref (ad 6), .ref (ad 7), .int (nI (xa S)), .ref (ad 8), .ref (ad 9), .int (nI (xp S)), .ref (ad 10), .ref (ad 11), .ref (ad 12), .ref (ad 13), .int (xtd S)] 12 (.int (nI v))))) H) : va_P (dC, dI) classes (wX ad cI (xp_s S v)) H := h
theorem sD_xp {ad : Nat → Nat} {cI : Nat → ClassId} {A : Nat → Prop} {S : XS} {v : Nat} (h : va_D A (List.set (wX ad cI S) 0 (ad 0, .inr (0, List.set [.int (nI (xn S)), .ref (ad 1), .ref (ad 2), .ref (ad 3), .ref (ad 4), .int (nI (xr S)), .ref (ad 5), .ref (ad 6), .ref (ad 7), .int (nI (xa S)), .ref (ad 8), .ref (ad 9), .int (nI (xp S)), .ref (ad 10), .ref (ad 11), .ref (ad 12), .ref (ad 13), .int (xtd S)] 12 (.int (nI v)))))) : va_D A (wX ad cI (xp_s S v)) := h
theorem sP_xtd {dC : Nat → ClassId} {dI : Nat → Nat → Nat} {ad : Nat → Nat} {cI : Nat → ClassId} {H : Heap} {S : XS} {v : Int32} (h : va_P (dC, dI) classes (List.set (wX ad cI S) 0 (ad 0, .inr (0, List.set [.int (nI (xn S)), .ref (ad 1), .ref (ad 2), .ref (ad 3), .ref (ad 4), .int (nI (xr S)), .ref (ad 5), .ref (ad 6), .ref (ad 7), .int (nI (xa S)), .ref (ad 8), .ref (ad 9), .int (nI (xp S)), .ref (ad 10), .ref (ad 11), .ref (ad 12), .ref (ad 13), .int (xtd S)] 17 (.int v)))) H) : va_P (dC, dI) classes (wX ad cI (xtd_s S v)) H := h
theorem sD_xtd {ad : Nat → Nat} {cI : Nat → ClassId} {A : Nat → Prop} {S : XS} {v : Int32} (h : va_D A (List.set (wX ad cI S) 0 (ad 0, .inr (0, List.set [.int (nI (xn S)), .ref (ad 1), .ref (ad 2), .ref (ad 3), .ref (ad 4), .int (nI (xr S)), .ref (ad 5), .ref (ad 6), .ref (ad 7), .int (nI (xa S)), .ref (ad 8), .ref (ad 9), .int (nI (xp S)), .ref (ad 10), .ref (ad 11), .ref (ad 12), .ref (ad 13), .int (xtd S)] 17 (.int v))))) : va_D A (wX ad cI (xtd_s S v)) := h
theorem sP_xnum {dC : Nat → ClassId} {dI : Nat → Nat → Nat} {ad : Nat → Nat} {cI : Nat → ClassId} {H : Heap} {S : XS} {v : Nat → Int32} (h : va_P (dC, dI) classes (List.set (wX ad cI S) 1 (ad 1, .inl (cI 1, 12, .inl v))) H) : va_P (dC, dI) classes (wX ad cI (xnum_s S v)) H := h
theorem sD_xnum {ad : Nat → Nat} {cI : Nat → ClassId} {A : Nat → Prop} {S : XS} {v : Nat → Int32} (h : va_D A (List.set (wX ad cI S) 1 (ad 1, .inl (cI 1, 12, .inl v)))) : va_D A (wX ad cI (xnum_s S v)) := h
theorem sP_xspec {dC : Nat → ClassId} {dI : Nat → Nat → Nat} {ad : Nat → Nat} {cI : Nat → ClassId} {H : Heap} {S : XS} {v : Nat → Int32} (h : va_P (dC, dI) classes (List.set (wX ad cI S) 2 (ad 2, .inl (cI 2, 12, .inl v))) H) : va_P (dC, dI) classes (wX ad cI (xspec_s S v)) H := h
theorem sD_xspec {ad : Nat → Nat} {cI : Nat → ClassId} {A : Nat → Prop} {S : XS} {v : Nat → Int32} (h : va_D A (List.set (wX ad cI S) 2 (ad 2, .inl (cI 2, 12, .inl v)))) : va_D A (wX ad cI (xspec_s S v)) := h
theorem sP_xup {dC : Nat → ClassId} {dI : Nat → Nat → Nat} {ad : Nat → Nat} {cI : Nat → ClassId} {H : Heap} {S : XS} {v : Nat → Int32} (h : va_P (dC, dI) classes (List.set (wX ad cI S) 3 (ad 3, .inl (cI 3, 12, .inl v))) H) : va_P (dC, dI) classes (wX ad cI (xup_s S v)) H := h
theorem sD_xup {ad : Nat → Nat} {cI : Nat → ClassId} {A : Nat → Prop} {S : XS} {v : Nat → Int32} (h : va_D A (List.set (wX ad cI S) 3 (ad 3, .inl (cI 3, 12, .inl v)))) : va_D A (wX ad cI (xup_s S v)) := h
theorem sP_xdown {dC : Nat → ClassId} {dI : Nat → Nat → Nat} {ad : Nat → Nat} {cI : Nat → ClassId} {H : Heap} {S : XS} {v : Nat → Int32} (h : va_P (dC, dI) classes (List.set (wX ad cI S) 4 (ad 4, .inl (cI 4, 12, .inl v))) H) : va_P (dC, dI) classes (wX ad cI (xdown_s S v)) H := h
theorem sD_xdown {ad : Nat → Nat} {cI : Nat → ClassId} {A : Nat → Prop} {S : XS} {v : Nat → Int32} (h : va_D A (List.set (wX ad cI S) 4 (ad 4, .inl (cI 4, 12, .inl v)))) : va_D A (wX ad cI (xdown_s S v)) := h
theorem sP_xkw {dC : Nat → ClassId} {dI : Nat → Nat → Nat} {ad : Nat → Nat} {cI : Nat → ClassId} {H : Heap} {S : XS} {v : Nat → Int32} (h : va_P (dC, dI) classes (List.set (wX ad cI S) 5 (ad 5, .inl (cI 5, 20, .inl v))) H) : va_P (dC, dI) classes (wX ad cI (xkw_s S v)) H := h
theorem sD_xkw {ad : Nat → Nat} {cI : Nat → ClassId} {A : Nat → Prop} {S : XS} {v : Nat → Int32} (h : va_D A (List.set (wX ad cI S) 5 (ad 5, .inl (cI 5, 20, .inl v)))) : va_D A (wX ad cI (xkw_s S v)) := h
theorem sP_xfw {dC : Nat → ClassId} {dI : Nat → Nat → Nat} {ad : Nat → Nat} {cI : Nat → ClassId} {H : Heap} {S : XS} {v : Nat → Int32} (h : va_P (dC, dI) classes (List.set (wX ad cI S) 6 (ad 6, .inl (cI 6, 20, .inl v))) H) : va_P (dC, dI) classes (wX ad cI (xfw_s S v)) H := h
theorem sD_xfw {ad : Nat → Nat} {cI : Nat → ClassId} {A : Nat → Prop} {S : XS} {v : Nat → Int32} (h : va_D A (List.set (wX ad cI S) 6 (ad 6, .inl (cI 6, 20, .inl v)))) : va_D A (wX ad cI (xfw_s S v)) := h
theorem sP_xlw {dC : Nat → ClassId} {dI : Nat → Nat → Nat} {ad : Nat → Nat} {cI : Nat → ClassId} {H : Heap} {S : XS} {v : Nat → Int32} (h : va_P (dC, dI) classes (List.set (wX ad cI S) 7 (ad 7, .inl (cI 7, 20, .inl v))) H) : va_P (dC, dI) classes (wX ad cI (xlw_s S v)) H := h
theorem sD_xlw {ad : Nat → Nat} {cI : Nat → ClassId} {A : Nat → Prop} {S : XS} {v : Nat → Int32} (h : va_D A (List.set (wX ad cI S) 7 (ad 7, .inl (cI 7, 20, .inl v)))) : va_D A (wX ad cI (xlw_s S v)) := h
theorem sP_xgv {dC : Nat → ClassId} {dI : Nat → Nat → Nat} {ad : Nat → Nat} {cI : Nat → ClassId} {H : Heap} {S : XS} {v : Nat → Int32} (h : va_P (dC, dI) classes (List.set (wX ad cI S) 8 (ad 8, .inl (cI 8, 5, .inl v))) H) : va_P (dC, dI) classes (wX ad cI (xgv_s S v)) H := h
theorem sD_xgv {ad : Nat → Nat} {cI : Nat → ClassId} {A : Nat → Prop} {S : XS} {v : Nat → Int32} (h : va_D A (List.set (wX ad cI S) 8 (ad 8, .inl (cI 8, 5, .inl v)))) : va_D A (wX ad cI (xgv_s S v)) := h
theorem sP_xod {dC : Nat → ClassId} {dI : Nat → Nat → Nat} {ad : Nat → Nat} {cI : Nat → ClassId} {H : Heap} {S : XS} {v : Nat → Int32} (h : va_P (dC, dI) classes (List.set (wX ad cI S) 9 (ad 9, .inl (cI 9, 5, .inl v))) H) : va_P (dC, dI) classes (wX ad cI (xod_s S v)) H := h
theorem sD_xod {ad : Nat → Nat} {cI : Nat → ClassId} {A : Nat → Prop} {S : XS} {v : Nat → Int32} (h : va_D A (List.set (wX ad cI S) 9 (ad 9, .inl (cI 9, 5, .inl v)))) : va_D A (wX ad cI (xod_s S v)) := h
theorem sP_xpc {dC : Nat → ClassId} {dI : Nat → Nat → Nat} {ad : Nat → Nat} {cI : Nat → ClassId} {H : Heap} {S : XS} {v : Nat → Int32} (h : va_P (dC, dI) classes (List.set (wX ad cI S) 10 (ad 10, .inl (cI 10, 20, .inl v))) H) : va_P (dC, dI) classes (wX ad cI (xpc_s S v)) H := h
theorem sD_xpc {ad : Nat → Nat} {cI : Nat → ClassId} {A : Nat → Prop} {S : XS} {v : Nat → Int32} (h : va_D A (List.set (wX ad cI S) 10 (ad 10, .inl (cI 10, 20, .inl v)))) : va_D A (wX ad cI (xpc_s S v)) := h
theorem sP_xp1 {dC : Nat → ClassId} {dI : Nat → Nat → Nat} {ad : Nat → Nat} {cI : Nat → ClassId} {H : Heap} {S : XS} {v : Nat → Int32} (h : va_P (dC, dI) classes (List.set (wX ad cI S) 11 (ad 11, .inl (cI 11, 20, .inl v))) H) : va_P (dC, dI) classes (wX ad cI (xp1_s S v)) H := h
theorem sD_xp1 {ad : Nat → Nat} {cI : Nat → ClassId} {A : Nat → Prop} {S : XS} {v : Nat → Int32} (h : va_D A (List.set (wX ad cI S) 11 (ad 11, .inl (cI 11, 20, .inl v)))) : va_D A (wX ad cI (xp1_s S v)) := h
theorem sP_xp2 {dC : Nat → ClassId} {dI : Nat → Nat → Nat} {ad : Nat → Nat} {cI : Nat → ClassId} {H : Heap} {S : XS} {v : Nat → Int32} (h : va_P (dC, dI) classes (List.set (wX ad cI S) 12 (ad 12, .inl (cI 12, 20, .inl v))) H) : va_P (dC, dI) classes (wX ad cI (xp2_s S v)) H := h
theorem sD_xp2 {ad : Nat → Nat} {cI : Nat → ClassId} {A : Nat → Prop} {S : XS} {v : Nat → Int32} (h : va_D A (List.set (wX ad cI S) 12 (ad 12, .inl (cI 12, 20, .inl v)))) : va_D A (wX ad cI (xp2_s S v)) := h
theorem sP_xpu {dC : Nat → ClassId} {dI : Nat → Nat → Nat} {ad : Nat → Nat} {cI : Nat → ClassId} {H : Heap} {S : XS} {v : Nat → Int32} (h : va_P (dC, dI) classes (List.set (wX ad cI S) 13 (ad 13, .inl (cI 13, 20, .inl v))) H) : va_P (dC, dI) classes (wX ad cI (xpu_s S v)) H := h
theorem sD_xpu {ad : Nat → Nat} {cI : Nat → ClassId} {A : Nat → Prop} {S : XS} {v : Nat → Int32} (h : va_D A (List.set (wX ad cI S) 13 (ad 13, .inl (cI 13, 20, .inl v)))) : va_D A (wX ad cI (xpu_s S v)) := h
theorem to_X {dC : Nat → ClassId} {dI : Nat → Nat → Nat} {ad : Nat → Nat} {cI : Nat → ClassId} {S : XS} {H : Heap} {s : State} (hP : va_P (dC, dI) classes (wX ad cI S) H) (hK : va_K (dC, dI) classes [(cI 1, .int), (cI 2, .int), (cI 3, .int), (cI 4, .int), (cI 5, .int), (cI 6, .int), (cI 7, .int), (cI 8, .int), (cI 9, .int), (cI 10, .int), (cI 11, .int), (cI 12, .int), (cI 13, .int)] s) (U : State) (hU : U.heap = H) (hW : s.WarmedH U.vm) : bX dC dI ad cI S U := ⟨by rw [hU]; exact hP, va_K.moved hW.alike hK⟩
theorem fb_X {av : List Value} {dC : Nat → ClassId} {dI : Nat → Nat → Nat} {ad : Nat → Nat} {cI : Nat → ClassId} {S : XS} : FrameBlind (va_Pc av (bX dC dI ad cI S)) := fun a U g mk q => ⟨q.1, q.2.1, va_K.moved (u := U) (U := U.calling g mk a) (Vm.Alike.refl U.vm) q.2.2⟩
theorem fbu_X {av : List Value} {dC : Nat → ClassId} {dI : Nat → Nat → Nat} {ad : Nat → Nat} {cI : Nat → ClassId} {sz : Nat} {S : XS} : FrameBlind (va_Pc av (buX dC dI ad cI sz S)) := fun a U g mk q => ⟨q.1, q.2.1, ⟨q.2.2.1.1, va_K.moved (u := U) (U := U.calling g mk a) (Vm.Alike.refl U.vm) q.2.2.1.2⟩, q.2.2.2⟩
theorem dm_X {A : Nat → Prop} {ad : Nat → Nat} {cI : Nat → ClassId} {S S2 : XS} (h : va_D A (wX ad cI S)) : va_D A (wX ad cI S2) := va_D_addr (ws := (wX ad cI S)) rfl h
def wM (ae : Nat → Nat) (cI : Nat → ClassId) (S : MS) : va_W := [(ae 0, .inr (1, [.int (nI (mth S)), .int (nI (mn S)), .int (nI (mr S)), .int (nI (mp S)), .int (mtd S), .int (nI (mtu S)), .ref (ae 1), .ref (ae 2), .ref (ae 3), .ref (ae 4), .ref (ae 5), .ref (ae 6), .ref (ae 7), .ref (ae 8), .ref (ae 9), .ref (ae 10), .ref (ae 11), .ref (ae 12), .ref (ae 13), .ref (ae 14), .ref (ae 15), .ref (ae 16), .ref (ae 17), .ref (ae 18), .ref (ae 19), .ref (ae 20), .int (mwf S)])), (ae 1, .inl (cI 1, 12, .inl (mnum S))), (ae 2, .inl (cI 2, 12, .inl (mspec S))), (ae 3, .inl (cI 3, 12, .inl (mup S))), (ae 4, .inl (cI 4, 12, .inl (mdown S))), (ae 5, .inl (cI 5, 60, .inl (mra S))), (ae 6, .inl (cI 6, 60, .inl (mrc S))), (ae 7, .inl (cI 7, 60, .inl (mrk S))), (ae 8, .inl (cI 8, 5, .inl (mgv S))), (ae 9, .inl (cI 9, 5, .inl (mtn S))), (ae 10, .inl (cI 10, 20, .inl (mpc S))), (ae 11, .inl (cI 11, 20, .inl (mp1 S))), (ae 12, .inl (cI 12, 20, .inl (mp2 S))), (ae 13, .inl (cI 13, 20, .inl (mpu S))), (ae 14, .inl (cI 14, 20, .inl (mlv S))), (ae 15, .inl (cI 15, 7, .inl (mwl S))), (ae 16, .inl (cI 16, 7, .inl (mwo S))), (ae 17, .inl (cI 17, 7, .inl (mwq S))), (ae 18, .inl (cI 18, 7, .inl (mwa S))), (ae 19, .inl (cI 19, 7, .inl (mwm S))), (ae 20, .inl (cI 20, 7, .inl (mwb S)))]
def bM (dC : Nat → ClassId) (dI : Nat → Nat → Nat) (ae : Nat → Nat) (cI : Nat → ClassId) (S : MS) (U : State) : Prop := va_P (dC, dI) classes (wM ae cI S) U.heap ∧ va_K (dC, dI) classes [(cI 1, .int), (cI 2, .int), (cI 3, .int), (cI 4, .int), (cI 5, .int), (cI 6, .int), (cI 7, .boolean), (cI 8, .int), (cI 9, .int), (cI 10, .int), (cI 11, .int), (cI 12, .int), (cI 13, .int), (cI 14, .int), (cI 15, .int), (cI 16, .int), (cI 17, .int), (cI 18, .int), (cI 19, .int), (cI 20, .int)] U
def buM (dC : Nat → ClassId) (dI : Nat → Nat → Nat) (ae : Nat → Nat) (cI : Nat → ClassId) (sz : Nat) (S : MS) (U : State) : Prop := U.heap.size = sz ∧ bM dC dI ae cI S U ∧ va_D (fun _ => True) (wM ae cI S)
theorem sP_mth {dC : Nat → ClassId} {dI : Nat → Nat → Nat} {ae : Nat → Nat} {cI : Nat → ClassId} {H : Heap} {S : MS} {v : Nat} (h : va_P (dC, dI) classes (List.set (wM ae cI S) 0 (ae 0, .inr (1, List.set [.int (nI (mth S)), .int (nI (mn S)), .int (nI (mr S)), .int (nI (mp S)), .int (mtd S), .int (nI (mtu S)), .ref (ae 1), .ref (ae 2), .ref (ae 3), .ref (ae 4), .ref (ae 5), .ref (ae 6), .ref (ae 7), .ref (ae 8), .ref (ae 9), .ref (ae 10), .ref (ae 11), .ref (ae 12), .ref (ae 13), .ref (ae 14), .ref (ae 15), .ref (ae 16), .ref (ae 17), .ref (ae 18), .ref (ae 19), .ref (ae 20), .int (mwf S)] 0 (.int (nI v))))) H) : va_P (dC, dI) classes (wM ae cI (mth_s S v)) H := h
theorem sD_mth {ae : Nat → Nat} {cI : Nat → ClassId} {A : Nat → Prop} {S : MS} {v : Nat} (h : va_D A (List.set (wM ae cI S) 0 (ae 0, .inr (1, List.set [.int (nI (mth S)), .int (nI (mn S)), .int (nI (mr S)), .int (nI (mp S)), .int (mtd S), .int (nI (mtu S)), .ref (ae 1), .ref (ae 2), .ref (ae 3), .ref (ae 4), .ref (ae 5), .ref (ae 6), .ref (ae 7), .ref (ae 8), .ref (ae 9), .ref (ae 10), .ref (ae 11), .ref (ae 12), .ref (ae 13), .ref (ae 14), .ref (ae 15), .ref (ae 16), .ref (ae 17), .ref (ae 18), .ref (ae 19), .ref (ae 20), .int (mwf S)] 0 (.int (nI v)))))) : va_D A (wM ae cI (mth_s S v)) := h
theorem sP_mn {dC : Nat → ClassId} {dI : Nat → Nat → Nat} {ae : Nat → Nat} {cI : Nat → ClassId} {H : Heap} {S : MS} {v : Nat} (h : va_P (dC, dI) classes (List.set (wM ae cI S) 0 (ae 0, .inr (1, List.set [.int (nI (mth S)), .int (nI (mn S)), .int (nI (mr S)), .int (nI (mp S)), .int (mtd S), .int (nI (mtu S)), .ref (ae 1), .ref (ae 2), .ref (ae 3), .ref (ae 4), .ref (ae 5), .ref (ae 6), .ref (ae 7), .ref (ae 8), .ref (ae 9), .ref (ae 10), .ref (ae 11), .ref (ae 12), .ref (ae 13), .ref (ae 14), .ref (ae 15), .ref (ae 16), .ref (ae 17), .ref (ae 18), .ref (ae 19), .ref (ae 20), .int (mwf S)] 1 (.int (nI v))))) H) : va_P (dC, dI) classes (wM ae cI (mn_s S v)) H := h
theorem sD_mn {ae : Nat → Nat} {cI : Nat → ClassId} {A : Nat → Prop} {S : MS} {v : Nat} (h : va_D A (List.set (wM ae cI S) 0 (ae 0, .inr (1, List.set [.int (nI (mth S)), .int (nI (mn S)), .int (nI (mr S)), .int (nI (mp S)), .int (mtd S), .int (nI (mtu S)), .ref (ae 1), .ref (ae 2), .ref (ae 3), .ref (ae 4), .ref (ae 5), .ref (ae 6), .ref (ae 7), .ref (ae 8), .ref (ae 9), .ref (ae 10), .ref (ae 11), .ref (ae 12), .ref (ae 13), .ref (ae 14), .ref (ae 15), .ref (ae 16), .ref (ae 17), .ref (ae 18), .ref (ae 19), .ref (ae 20), .int (mwf S)] 1 (.int (nI v)))))) : va_D A (wM ae cI (mn_s S v)) := h
theorem sP_mr {dC : Nat → ClassId} {dI : Nat → Nat → Nat} {ae : Nat → Nat} {cI : Nat → ClassId} {H : Heap} {S : MS} {v : Nat} (h : va_P (dC, dI) classes (List.set (wM ae cI S) 0 (ae 0, .inr (1, List.set [.int (nI (mth S)), .int (nI (mn S)), .int (nI (mr S)), .int (nI (mp S)), .int (mtd S), .int (nI (mtu S)), .ref (ae 1), .ref (ae 2), .ref (ae 3), .ref (ae 4), .ref (ae 5), .ref (ae 6), .ref (ae 7), .ref (ae 8), .ref (ae 9), .ref (ae 10), .ref (ae 11), .ref (ae 12), .ref (ae 13), .ref (ae 14), .ref (ae 15), .ref (ae 16), .ref (ae 17), .ref (ae 18), .ref (ae 19), .ref (ae 20), .int (mwf S)] 2 (.int (nI v))))) H) : va_P (dC, dI) classes (wM ae cI (mr_s S v)) H := h
theorem sD_mr {ae : Nat → Nat} {cI : Nat → ClassId} {A : Nat → Prop} {S : MS} {v : Nat} (h : va_D A (List.set (wM ae cI S) 0 (ae 0, .inr (1, List.set [.int (nI (mth S)), .int (nI (mn S)), .int (nI (mr S)), .int (nI (mp S)), .int (mtd S), .int (nI (mtu S)), .ref (ae 1), .ref (ae 2), .ref (ae 3), .ref (ae 4), .ref (ae 5), .ref (ae 6), .ref (ae 7), .ref (ae 8), .ref (ae 9), .ref (ae 10), .ref (ae 11), .ref (ae 12), .ref (ae 13), .ref (ae 14), .ref (ae 15), .ref (ae 16), .ref (ae 17), .ref (ae 18), .ref (ae 19), .ref (ae 20), .int (mwf S)] 2 (.int (nI v)))))) : va_D A (wM ae cI (mr_s S v)) := h
theorem sP_mp {dC : Nat → ClassId} {dI : Nat → Nat → Nat} {ae : Nat → Nat} {cI : Nat → ClassId} {H : Heap} {S : MS} {v : Nat} (h : va_P (dC, dI) classes (List.set (wM ae cI S) 0 (ae 0, .inr (1, List.set [.int (nI (mth S)), .int (nI (mn S)), .int (nI (mr S)), .int (nI (mp S)), .int (mtd S), .int (nI (mtu S)), .ref (ae 1), .ref (ae 2), .ref (ae 3), .ref (ae 4), .ref (ae 5), .ref (ae 6), .ref (ae 7), .ref (ae 8), .ref (ae 9), .ref (ae 10), .ref (ae 11), .ref (ae 12), .ref (ae 13), .ref (ae 14), .ref (ae 15), .ref (ae 16), .ref (ae 17), .ref (ae 18), .ref (ae 19), .ref (ae 20), .int (mwf S)] 3 (.int (nI v))))) H) : va_P (dC, dI) classes (wM ae cI (mp_s S v)) H := h
theorem sD_mp {ae : Nat → Nat} {cI : Nat → ClassId} {A : Nat → Prop} {S : MS} {v : Nat} (h : va_D A (List.set (wM ae cI S) 0 (ae 0, .inr (1, List.set [.int (nI (mth S)), .int (nI (mn S)), .int (nI (mr S)), .int (nI (mp S)), .int (mtd S), .int (nI (mtu S)), .ref (ae 1), .ref (ae 2), .ref (ae 3), .ref (ae 4), .ref (ae 5), .ref (ae 6), .ref (ae 7), .ref (ae 8), .ref (ae 9), .ref (ae 10), .ref (ae 11), .ref (ae 12), .ref (ae 13), .ref (ae 14), .ref (ae 15), .ref (ae 16), .ref (ae 17), .ref (ae 18), .ref (ae 19), .ref (ae 20), .int (mwf S)] 3 (.int (nI v)))))) : va_D A (wM ae cI (mp_s S v)) := h
theorem sP_mtd {dC : Nat → ClassId} {dI : Nat → Nat → Nat} {ae : Nat → Nat} {cI : Nat → ClassId} {H : Heap} {S : MS} {v : Int32} (h : va_P (dC, dI) classes (List.set (wM ae cI S) 0 (ae 0, .inr (1, List.set [.int (nI (mth S)), .int (nI (mn S)), .int (nI (mr S)), .int (nI (mp S)), .int (mtd S), .int (nI (mtu S)), .ref (ae 1), .ref (ae 2), .ref (ae 3), .ref (ae 4), .ref (ae 5), .ref (ae 6), .ref (ae 7), .ref (ae 8), .ref (ae 9), .ref (ae 10), .ref (ae 11), .ref (ae 12), .ref (ae 13), .ref (ae 14), .ref (ae 15), .ref (ae 16), .ref (ae 17), .ref (ae 18), .ref (ae 19), .ref (ae 20), .int (mwf S)] 4 (.int v)))) H) : va_P (dC, dI) classes (wM ae cI (mtd_s S v)) H := h
theorem sD_mtd {ae : Nat → Nat} {cI : Nat → ClassId} {A : Nat → Prop} {S : MS} {v : Int32} (h : va_D A (List.set (wM ae cI S) 0 (ae 0, .inr (1, List.set [.int (nI (mth S)), .int (nI (mn S)), .int (nI (mr S)), .int (nI (mp S)), .int (mtd S), .int (nI (mtu S)), .ref (ae 1), .ref (ae 2), .ref (ae 3), .ref (ae 4), .ref (ae 5), .ref (ae 6), .ref (ae 7), .ref (ae 8), .ref (ae 9), .ref (ae 10), .ref (ae 11), .ref (ae 12), .ref (ae 13), .ref (ae 14), .ref (ae 15), .ref (ae 16), .ref (ae 17), .ref (ae 18), .ref (ae 19), .ref (ae 20), .int (mwf S)] 4 (.int v))))) : va_D A (wM ae cI (mtd_s S v)) := h
theorem sP_mtu {dC : Nat → ClassId} {dI : Nat → Nat → Nat} {ae : Nat → Nat} {cI : Nat → ClassId} {H : Heap} {S : MS} {v : Nat} (h : va_P (dC, dI) classes (List.set (wM ae cI S) 0 (ae 0, .inr (1, List.set [.int (nI (mth S)), .int (nI (mn S)), .int (nI (mr S)), .int (nI (mp S)), .int (mtd S), .int (nI (mtu S)), .ref (ae 1), .ref (ae 2), .ref (ae 3), .ref (ae 4), .ref (ae 5), .ref (ae 6), .ref (ae 7), .ref (ae 8), .ref (ae 9), .ref (ae 10), .ref (ae 11), .ref (ae 12), .ref (ae 13), .ref (ae 14), .ref (ae 15), .ref (ae 16), .ref (ae 17), .ref (ae 18), .ref (ae 19), .ref (ae 20), .int (mwf S)] 5 (.int (nI v))))) H) : va_P (dC, dI) classes (wM ae cI (mtu_s S v)) H := h
theorem sD_mtu {ae : Nat → Nat} {cI : Nat → ClassId} {A : Nat → Prop} {S : MS} {v : Nat} (h : va_D A (List.set (wM ae cI S) 0 (ae 0, .inr (1, List.set [.int (nI (mth S)), .int (nI (mn S)), .int (nI (mr S)), .int (nI (mp S)), .int (mtd S), .int (nI (mtu S)), .ref (ae 1), .ref (ae 2), .ref (ae 3), .ref (ae 4), .ref (ae 5), .ref (ae 6), .ref (ae 7), .ref (ae 8), .ref (ae 9), .ref (ae 10), .ref (ae 11), .ref (ae 12), .ref (ae 13), .ref (ae 14), .ref (ae 15), .ref (ae 16), .ref (ae 17), .ref (ae 18), .ref (ae 19), .ref (ae 20), .int (mwf S)] 5 (.int (nI v)))))) : va_D A (wM ae cI (mtu_s S v)) := h
theorem sP_mwf {dC : Nat → ClassId} {dI : Nat → Nat → Nat} {ae : Nat → Nat} {cI : Nat → ClassId} {H : Heap} {S : MS} {v : Int32} (h : va_P (dC, dI) classes (List.set (wM ae cI S) 0 (ae 0, .inr (1, List.set [.int (nI (mth S)), .int (nI (mn S)), .int (nI (mr S)), .int (nI (mp S)), .int (mtd S), .int (nI (mtu S)), .ref (ae 1), .ref (ae 2), .ref (ae 3), .ref (ae 4), .ref (ae 5), .ref (ae 6), .ref (ae 7), .ref (ae 8), .ref (ae 9), .ref (ae 10), .ref (ae 11), .ref (ae 12), .ref (ae 13), .ref (ae 14), .ref (ae 15), .ref (ae 16), .ref (ae 17), .ref (ae 18), .ref (ae 19), .ref (ae 20), .int (mwf S)] 26 (.int v)))) H) : va_P (dC, dI) classes (wM ae cI (mwf_s S v)) H := h
theorem sD_mwf {ae : Nat → Nat} {cI : Nat → ClassId} {A : Nat → Prop} {S : MS} {v : Int32} (h : va_D A (List.set (wM ae cI S) 0 (ae 0, .inr (1, List.set [.int (nI (mth S)), .int (nI (mn S)), .int (nI (mr S)), .int (nI (mp S)), .int (mtd S), .int (nI (mtu S)), .ref (ae 1), .ref (ae 2), .ref (ae 3), .ref (ae 4), .ref (ae 5), .ref (ae 6), .ref (ae 7), .ref (ae 8), .ref (ae 9), .ref (ae 10), .ref (ae 11), .ref (ae 12), .ref (ae 13), .ref (ae 14), .ref (ae 15), .ref (ae 16), .ref (ae 17), .ref (ae 18), .ref (ae 19), .ref (ae 20), .int (mwf S)] 26 (.int v))))) : va_D A (wM ae cI (mwf_s S v)) := h
theorem sP_mnum {dC : Nat → ClassId} {dI : Nat → Nat → Nat} {ae : Nat → Nat} {cI : Nat → ClassId} {H : Heap} {S : MS} {v : Nat → Int32} (h : va_P (dC, dI) classes (List.set (wM ae cI S) 1 (ae 1, .inl (cI 1, 12, .inl v))) H) : va_P (dC, dI) classes (wM ae cI (mnum_s S v)) H := h
theorem sD_mnum {ae : Nat → Nat} {cI : Nat → ClassId} {A : Nat → Prop} {S : MS} {v : Nat → Int32} (h : va_D A (List.set (wM ae cI S) 1 (ae 1, .inl (cI 1, 12, .inl v)))) : va_D A (wM ae cI (mnum_s S v)) := h
theorem sP_mspec {dC : Nat → ClassId} {dI : Nat → Nat → Nat} {ae : Nat → Nat} {cI : Nat → ClassId} {H : Heap} {S : MS} {v : Nat → Int32} (h : va_P (dC, dI) classes (List.set (wM ae cI S) 2 (ae 2, .inl (cI 2, 12, .inl v))) H) : va_P (dC, dI) classes (wM ae cI (mspec_s S v)) H := h
theorem sD_mspec {ae : Nat → Nat} {cI : Nat → ClassId} {A : Nat → Prop} {S : MS} {v : Nat → Int32} (h : va_D A (List.set (wM ae cI S) 2 (ae 2, .inl (cI 2, 12, .inl v)))) : va_D A (wM ae cI (mspec_s S v)) := h
theorem sP_mup {dC : Nat → ClassId} {dI : Nat → Nat → Nat} {ae : Nat → Nat} {cI : Nat → ClassId} {H : Heap} {S : MS} {v : Nat → Int32} (h : va_P (dC, dI) classes (List.set (wM ae cI S) 3 (ae 3, .inl (cI 3, 12, .inl v))) H) : va_P (dC, dI) classes (wM ae cI (mup_s S v)) H := h
theorem sD_mup {ae : Nat → Nat} {cI : Nat → ClassId} {A : Nat → Prop} {S : MS} {v : Nat → Int32} (h : va_D A (List.set (wM ae cI S) 3 (ae 3, .inl (cI 3, 12, .inl v)))) : va_D A (wM ae cI (mup_s S v)) := h
theorem sP_mdown {dC : Nat → ClassId} {dI : Nat → Nat → Nat} {ae : Nat → Nat} {cI : Nat → ClassId} {H : Heap} {S : MS} {v : Nat → Int32} (h : va_P (dC, dI) classes (List.set (wM ae cI S) 4 (ae 4, .inl (cI 4, 12, .inl v))) H) : va_P (dC, dI) classes (wM ae cI (mdown_s S v)) H := h
theorem sD_mdown {ae : Nat → Nat} {cI : Nat → ClassId} {A : Nat → Prop} {S : MS} {v : Nat → Int32} (h : va_D A (List.set (wM ae cI S) 4 (ae 4, .inl (cI 4, 12, .inl v)))) : va_D A (wM ae cI (mdown_s S v)) := h
theorem sP_mra {dC : Nat → ClassId} {dI : Nat → Nat → Nat} {ae : Nat → Nat} {cI : Nat → ClassId} {H : Heap} {S : MS} {v : Nat → Int32} (h : va_P (dC, dI) classes (List.set (wM ae cI S) 5 (ae 5, .inl (cI 5, 60, .inl v))) H) : va_P (dC, dI) classes (wM ae cI (mra_s S v)) H := h
theorem sD_mra {ae : Nat → Nat} {cI : Nat → ClassId} {A : Nat → Prop} {S : MS} {v : Nat → Int32} (h : va_D A (List.set (wM ae cI S) 5 (ae 5, .inl (cI 5, 60, .inl v)))) : va_D A (wM ae cI (mra_s S v)) := h
theorem sP_mrc {dC : Nat → ClassId} {dI : Nat → Nat → Nat} {ae : Nat → Nat} {cI : Nat → ClassId} {H : Heap} {S : MS} {v : Nat → Int32} (h : va_P (dC, dI) classes (List.set (wM ae cI S) 6 (ae 6, .inl (cI 6, 60, .inl v))) H) : va_P (dC, dI) classes (wM ae cI (mrc_s S v)) H := h
theorem sD_mrc {ae : Nat → Nat} {cI : Nat → ClassId} {A : Nat → Prop} {S : MS} {v : Nat → Int32} (h : va_D A (List.set (wM ae cI S) 6 (ae 6, .inl (cI 6, 60, .inl v)))) : va_D A (wM ae cI (mrc_s S v)) := h
theorem sP_mrk {dC : Nat → ClassId} {dI : Nat → Nat → Nat} {ae : Nat → Nat} {cI : Nat → ClassId} {H : Heap} {S : MS} {v : Nat → Int32} (h : va_P (dC, dI) classes (List.set (wM ae cI S) 7 (ae 7, .inl (cI 7, 60, .inl v))) H) : va_P (dC, dI) classes (wM ae cI (mrk_s S v)) H := h
theorem sD_mrk {ae : Nat → Nat} {cI : Nat → ClassId} {A : Nat → Prop} {S : MS} {v : Nat → Int32} (h : va_D A (List.set (wM ae cI S) 7 (ae 7, .inl (cI 7, 60, .inl v)))) : va_D A (wM ae cI (mrk_s S v)) := h
theorem sP_mgv {dC : Nat → ClassId} {dI : Nat → Nat → Nat} {ae : Nat → Nat} {cI : Nat → ClassId} {H : Heap} {S : MS} {v : Nat → Int32} (h : va_P (dC, dI) classes (List.set (wM ae cI S) 8 (ae 8, .inl (cI 8, 5, .inl v))) H) : va_P (dC, dI) classes (wM ae cI (mgv_s S v)) H := h
theorem sD_mgv {ae : Nat → Nat} {cI : Nat → ClassId} {A : Nat → Prop} {S : MS} {v : Nat → Int32} (h : va_D A (List.set (wM ae cI S) 8 (ae 8, .inl (cI 8, 5, .inl v)))) : va_D A (wM ae cI (mgv_s S v)) := h
theorem sP_mtn {dC : Nat → ClassId} {dI : Nat → Nat → Nat} {ae : Nat → Nat} {cI : Nat → ClassId} {H : Heap} {S : MS} {v : Nat → Int32} (h : va_P (dC, dI) classes (List.set (wM ae cI S) 9 (ae 9, .inl (cI 9, 5, .inl v))) H) : va_P (dC, dI) classes (wM ae cI (mtn_s S v)) H := h
theorem sD_mtn {ae : Nat → Nat} {cI : Nat → ClassId} {A : Nat → Prop} {S : MS} {v : Nat → Int32} (h : va_D A (List.set (wM ae cI S) 9 (ae 9, .inl (cI 9, 5, .inl v)))) : va_D A (wM ae cI (mtn_s S v)) := h
theorem sP_mpc {dC : Nat → ClassId} {dI : Nat → Nat → Nat} {ae : Nat → Nat} {cI : Nat → ClassId} {H : Heap} {S : MS} {v : Nat → Int32} (h : va_P (dC, dI) classes (List.set (wM ae cI S) 10 (ae 10, .inl (cI 10, 20, .inl v))) H) : va_P (dC, dI) classes (wM ae cI (mpc_s S v)) H := h
theorem sD_mpc {ae : Nat → Nat} {cI : Nat → ClassId} {A : Nat → Prop} {S : MS} {v : Nat → Int32} (h : va_D A (List.set (wM ae cI S) 10 (ae 10, .inl (cI 10, 20, .inl v)))) : va_D A (wM ae cI (mpc_s S v)) := h
theorem sP_mp1 {dC : Nat → ClassId} {dI : Nat → Nat → Nat} {ae : Nat → Nat} {cI : Nat → ClassId} {H : Heap} {S : MS} {v : Nat → Int32} (h : va_P (dC, dI) classes (List.set (wM ae cI S) 11 (ae 11, .inl (cI 11, 20, .inl v))) H) : va_P (dC, dI) classes (wM ae cI (mp1_s S v)) H := h
theorem sD_mp1 {ae : Nat → Nat} {cI : Nat → ClassId} {A : Nat → Prop} {S : MS} {v : Nat → Int32} (h : va_D A (List.set (wM ae cI S) 11 (ae 11, .inl (cI 11, 20, .inl v)))) : va_D A (wM ae cI (mp1_s S v)) := h
theorem sP_mp2 {dC : Nat → ClassId} {dI : Nat → Nat → Nat} {ae : Nat → Nat} {cI : Nat → ClassId} {H : Heap} {S : MS} {v : Nat → Int32} (h : va_P (dC, dI) classes (List.set (wM ae cI S) 12 (ae 12, .inl (cI 12, 20, .inl v))) H) : va_P (dC, dI) classes (wM ae cI (mp2_s S v)) H := h
theorem sD_mp2 {ae : Nat → Nat} {cI : Nat → ClassId} {A : Nat → Prop} {S : MS} {v : Nat → Int32} (h : va_D A (List.set (wM ae cI S) 12 (ae 12, .inl (cI 12, 20, .inl v)))) : va_D A (wM ae cI (mp2_s S v)) := h
theorem sP_mpu {dC : Nat → ClassId} {dI : Nat → Nat → Nat} {ae : Nat → Nat} {cI : Nat → ClassId} {H : Heap} {S : MS} {v : Nat → Int32} (h : va_P (dC, dI) classes (List.set (wM ae cI S) 13 (ae 13, .inl (cI 13, 20, .inl v))) H) : va_P (dC, dI) classes (wM ae cI (mpu_s S v)) H := h
theorem sD_mpu {ae : Nat → Nat} {cI : Nat → ClassId} {A : Nat → Prop} {S : MS} {v : Nat → Int32} (h : va_D A (List.set (wM ae cI S) 13 (ae 13, .inl (cI 13, 20, .inl v)))) : va_D A (wM ae cI (mpu_s S v)) := h
theorem sP_mlv {dC : Nat → ClassId} {dI : Nat → Nat → Nat} {ae : Nat → Nat} {cI : Nat → ClassId} {H : Heap} {S : MS} {v : Nat → Int32} (h : va_P (dC, dI) classes (List.set (wM ae cI S) 14 (ae 14, .inl (cI 14, 20, .inl v))) H) : va_P (dC, dI) classes (wM ae cI (mlv_s S v)) H := h
theorem sD_mlv {ae : Nat → Nat} {cI : Nat → ClassId} {A : Nat → Prop} {S : MS} {v : Nat → Int32} (h : va_D A (List.set (wM ae cI S) 14 (ae 14, .inl (cI 14, 20, .inl v)))) : va_D A (wM ae cI (mlv_s S v)) := h
theorem sP_mwl {dC : Nat → ClassId} {dI : Nat → Nat → Nat} {ae : Nat → Nat} {cI : Nat → ClassId} {H : Heap} {S : MS} {v : Nat → Int32} (h : va_P (dC, dI) classes (List.set (wM ae cI S) 15 (ae 15, .inl (cI 15, 7, .inl v))) H) : va_P (dC, dI) classes (wM ae cI (mwl_s S v)) H := h
theorem sD_mwl {ae : Nat → Nat} {cI : Nat → ClassId} {A : Nat → Prop} {S : MS} {v : Nat → Int32} (h : va_D A (List.set (wM ae cI S) 15 (ae 15, .inl (cI 15, 7, .inl v)))) : va_D A (wM ae cI (mwl_s S v)) := h
theorem sP_mwo {dC : Nat → ClassId} {dI : Nat → Nat → Nat} {ae : Nat → Nat} {cI : Nat → ClassId} {H : Heap} {S : MS} {v : Nat → Int32} (h : va_P (dC, dI) classes (List.set (wM ae cI S) 16 (ae 16, .inl (cI 16, 7, .inl v))) H) : va_P (dC, dI) classes (wM ae cI (mwo_s S v)) H := h
theorem sD_mwo {ae : Nat → Nat} {cI : Nat → ClassId} {A : Nat → Prop} {S : MS} {v : Nat → Int32} (h : va_D A (List.set (wM ae cI S) 16 (ae 16, .inl (cI 16, 7, .inl v)))) : va_D A (wM ae cI (mwo_s S v)) := h
theorem sP_mwq {dC : Nat → ClassId} {dI : Nat → Nat → Nat} {ae : Nat → Nat} {cI : Nat → ClassId} {H : Heap} {S : MS} {v : Nat → Int32} (h : va_P (dC, dI) classes (List.set (wM ae cI S) 17 (ae 17, .inl (cI 17, 7, .inl v))) H) : va_P (dC, dI) classes (wM ae cI (mwq_s S v)) H := h
theorem sD_mwq {ae : Nat → Nat} {cI : Nat → ClassId} {A : Nat → Prop} {S : MS} {v : Nat → Int32} (h : va_D A (List.set (wM ae cI S) 17 (ae 17, .inl (cI 17, 7, .inl v)))) : va_D A (wM ae cI (mwq_s S v)) := h
theorem sP_mwa {dC : Nat → ClassId} {dI : Nat → Nat → Nat} {ae : Nat → Nat} {cI : Nat → ClassId} {H : Heap} {S : MS} {v : Nat → Int32} (h : va_P (dC, dI) classes (List.set (wM ae cI S) 18 (ae 18, .inl (cI 18, 7, .inl v))) H) : va_P (dC, dI) classes (wM ae cI (mwa_s S v)) H := h
theorem sD_mwa {ae : Nat → Nat} {cI : Nat → ClassId} {A : Nat → Prop} {S : MS} {v : Nat → Int32} (h : va_D A (List.set (wM ae cI S) 18 (ae 18, .inl (cI 18, 7, .inl v)))) : va_D A (wM ae cI (mwa_s S v)) := h
theorem sP_mwm {dC : Nat → ClassId} {dI : Nat → Nat → Nat} {ae : Nat → Nat} {cI : Nat → ClassId} {H : Heap} {S : MS} {v : Nat → Int32} (h : va_P (dC, dI) classes (List.set (wM ae cI S) 19 (ae 19, .inl (cI 19, 7, .inl v))) H) : va_P (dC, dI) classes (wM ae cI (mwm_s S v)) H := h
theorem sD_mwm {ae : Nat → Nat} {cI : Nat → ClassId} {A : Nat → Prop} {S : MS} {v : Nat → Int32} (h : va_D A (List.set (wM ae cI S) 19 (ae 19, .inl (cI 19, 7, .inl v)))) : va_D A (wM ae cI (mwm_s S v)) := h
theorem sP_mwb {dC : Nat → ClassId} {dI : Nat → Nat → Nat} {ae : Nat → Nat} {cI : Nat → ClassId} {H : Heap} {S : MS} {v : Nat → Int32} (h : va_P (dC, dI) classes (List.set (wM ae cI S) 20 (ae 20, .inl (cI 20, 7, .inl v))) H) : va_P (dC, dI) classes (wM ae cI (mwb_s S v)) H := h
theorem sD_mwb {ae : Nat → Nat} {cI : Nat → ClassId} {A : Nat → Prop} {S : MS} {v : Nat → Int32} (h : va_D A (List.set (wM ae cI S) 20 (ae 20, .inl (cI 20, 7, .inl v)))) : va_D A (wM ae cI (mwb_s S v)) := h
theorem to_M {dC : Nat → ClassId} {dI : Nat → Nat → Nat} {ae : Nat → Nat} {cI : Nat → ClassId} {S : MS} {H : Heap} {s : State} (hP : va_P (dC, dI) classes (wM ae cI S) H) (hK : va_K (dC, dI) classes [(cI 1, .int), (cI 2, .int), (cI 3, .int), (cI 4, .int), (cI 5, .int), (cI 6, .int), (cI 7, .boolean), (cI 8, .int), (cI 9, .int), (cI 10, .int), (cI 11, .int), (cI 12, .int), (cI 13, .int), (cI 14, .int), (cI 15, .int), (cI 16, .int), (cI 17, .int), (cI 18, .int), (cI 19, .int), (cI 20, .int)] s) (U : State) (hU : U.heap = H) (hW : s.WarmedH U.vm) : bM dC dI ae cI S U := ⟨by rw [hU]; exact hP, va_K.moved hW.alike hK⟩
theorem fb_M {av : List Value} {dC : Nat → ClassId} {dI : Nat → Nat → Nat} {ae : Nat → Nat} {cI : Nat → ClassId} {S : MS} : FrameBlind (va_Pc av (bM dC dI ae cI S)) := fun a U g mk q => ⟨q.1, q.2.1, va_K.moved (u := U) (U := U.calling g mk a) (Vm.Alike.refl U.vm) q.2.2⟩
theorem fbu_M {av : List Value} {dC : Nat → ClassId} {dI : Nat → Nat → Nat} {ae : Nat → Nat} {cI : Nat → ClassId} {sz : Nat} {S : MS} : FrameBlind (va_Pc av (buM dC dI ae cI sz S)) := fun a U g mk q => ⟨q.1, q.2.1, ⟨q.2.2.1.1, va_K.moved (u := U) (U := U.calling g mk a) (Vm.Alike.refl U.vm) q.2.2.1.2⟩, q.2.2.2⟩
theorem dm_M {A : Nat → Prop} {ae : Nat → Nat} {cI : Nat → ClassId} {S S2 : MS} (h : va_D A (wM ae cI S)) : va_D A (wM ae cI S2) := va_D_addr (ws := (wM ae cI S)) rfl h
