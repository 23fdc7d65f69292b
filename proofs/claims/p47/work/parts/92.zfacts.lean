/-! The object z of the law, for each of its sixteen scripts: what it is after each call, and its answers, decided. -/
theorem z_wfC {x : z_PV} {o : z_OV} (h : z_wf x.1) (hk : o.1 < 10) : z_wf (z_fChg x o).2.2.1 := by
  unfold z_fChg
  split
  · exact h
  · rename_i e
    exact h.do hk e
theorem z_wfA {x : z_PV} {k : Nat} {a b c : Int32} (h : z_wf x.1) (hk : k < 10) : z_wf (z_ac x k a b c).1 := z_wfC (o := (k, a, b, c, 0)) h hk
theorem z_wfN {x : z_PV} {l : List Nat} (h : z_wf x.1) : z_wf (z_ins x l).1 := h
theorem z_wfL {x : z_PV} {l : List Nat} (h : z_wf x.1) : z_wf (z_setL x l).1 := h
theorem z_wfT {x : z_PV} {a : Int32} (h : z_wf x.1) : z_wf (z_fTell x a).2.2.1 := by
  unfold z_fTell
  split
  · exact h
  · exact h
theorem z_wfB {x : z_PV} {a : Int32} (h : z_wf x.1) : z_wf (z_fTellBill x a).2.2.1 := by
  unfold z_fTellBill
  split
  · exact h
  · exact h
theorem z_sx16 {P : Nat → Prop} (h0 : ∀ i, i < 2 → P (0 + i)) (h1 : ∀ i, i < 2 → P (2 + i)) (h2 : ∀ i, i < 2 → P (4 + i)) (h3 : ∀ i, i < 2 → P (6 + i)) (h4 : ∀ i, i < 2 → P (8 + i)) (h5 : ∀ i, i < 2 → P (10 + i)) (h6 : ∀ i, i < 2 → P (12 + i)) (h7 : ∀ i, i < 2 → P (14 + i)) : ∀ i, i < 16 → P i := fun i hi => by
  have w : ∀ c, c ≤ i → i < c + 2 → (∀ j, j < 2 → P (c + j)) → P i := fun c e1 e2 e => by
    have := e (i - c) (by omega)
    rwa [show c + (i - c) = i by omega] at this
  rcases (by omega : i < 2 ∨ (2 ≤ i ∧ i < 4) ∨ (4 ≤ i ∧ i < 6) ∨ (6 ≤ i ∧ i < 8) ∨ (8 ≤ i ∧ i < 10) ∨ (10 ≤ i ∧ i < 12) ∨ (12 ≤ i ∧ i < 14) ∨ (14 ≤ i ∧ i < 16)) with e | e | e | e | e | e | e | e
  · exact w 0 (by omega) (by omega) h0
  · exact w 2 (by omega) (by omega) h1
  · exact w 4 (by omega) (by omega) h2
  · exact w 6 (by omega) (by omega) h3
  · exact w 8 (by omega) (by omega) h4
  · exact w 10 (by omega) (by omega) h5
  · exact w 12 (by omega) (by omega) h6
  · exact w 14 (by omega) (by omega) h7
def zs_0 (i : Nat) : z_PV := z_x0
theorem zw_0 (i : Nat) : z_wf (zs_0 i).1 := z_wf0
def zs_1 (i : Nat) : z_PV := z_nP (z_setL (zs_0 i) (z_trL (zs_0 i).1))
theorem zn_1 (i : Nat) : zs_1 i = z_setL (zs_0 i) (z_trL (zs_0 i).1) := z_nP_eq _
theorem zw_1 (i : Nat) : z_wf (zs_1 i).1 := by
  rw [zn_1]
  exact z_wfL (zw_0 i)
def zs_2 (i : Nat) : z_PV := z_nP (z_ac (zs_1 i) 8 0 0 0)
theorem zn_2 (i : Nat) : zs_2 i = z_ac (zs_1 i) 8 0 0 0 := z_nP_eq _
theorem zw_2 (i : Nat) : z_wf (zs_2 i).1 := by
  rw [zn_2]
  exact z_wfA (zw_1 i) (show (8 : Nat) < 10 by decide)
def zs_3 (i : Nat) : z_PV := z_nP (z_ac (zs_2 i) 3 0 0 0)
theorem zn_3 (i : Nat) : zs_3 i = z_ac (zs_2 i) 3 0 0 0 := z_nP_eq _
theorem zw_3 (i : Nat) : z_wf (zs_3 i).1 := by
  rw [zn_3]
  exact z_wfA (zw_2 i) (show (3 : Nat) < 10 by decide)
def zt1 (i : Nat) : List Nat := ((((((((([] ++ z_lsc 16) ++ z_dgs (10 + i)) ++ z_lsc 17) ++ z_dgs (10 + i + 5)) ++ z_lsc 18) ++ z_dgs (10 + i + 11)) ++ z_lsc 19) ++ z_dgs (10 + i)) ++ z_lsc 20)
def zs_4 (i : Nat) : z_PV := z_nP (z_ins (zs_3 i) (zt1 i))
theorem zn_4 (i : Nat) : zs_4 i = z_ins (zs_3 i) (zt1 i) := z_nP_eq _
theorem zw_4 (i : Nat) : z_wf (zs_4 i).1 := by
  rw [zn_4]
  exact z_wfN (zw_3 i)
def zs_5 (i : Nat) : z_PV := z_nP ((z_fRun (zs_4 i)).2.2)
theorem zn_5 (i : Nat) : zs_5 i = (z_fRun (zs_4 i)).2.2 := z_nP_eq _
theorem zw_5 (i : Nat) : z_wf (zs_5 i).1 := by
  rw [zn_5]
  exact z_run_w (zw_4 i)
def zs_6 (i : Nat) : z_PV := z_nP ((z_fTell (zs_5 i) (0 : Int32)).2.2)
theorem zn_6 (i : Nat) : zs_6 i = (z_fTell (zs_5 i) (0 : Int32)).2.2 := z_nP_eq _
theorem zw_6 (i : Nat) : z_wf (zs_6 i).1 := by
  rw [zn_6]
  exact z_wfT (zw_5 i)
def zt2 (i : Nat) : List Nat := ((([] ++ z_lsc 21) ++ z_dgs (10 + i)) ++ z_lsc 22)
def zs_7 (i : Nat) : z_PV := z_nP ((z_fTellBill (zs_6 i) (0 : Int32)).2.2)
theorem zn_7 (i : Nat) : zs_7 i = (z_fTellBill (zs_6 i) (0 : Int32)).2.2 := z_nP_eq _
theorem zw_7 (i : Nat) : z_wf (zs_7 i).1 := by
  rw [zn_7]
  exact z_wfB (zw_6 i)
def zt3 (i : Nat) : List Nat := ((([] ++ z_lsc 23) ++ z_dgs (10 + i)) ++ z_lsc 24)
def zs_8 (i : Nat) : z_PV := z_nP (z_ac (zs_7 i) 3 (2 : Int32) (2 : Int32) 0)
theorem zn_8 (i : Nat) : zs_8 i = z_ac (zs_7 i) 3 (2 : Int32) (2 : Int32) 0 := z_nP_eq _
theorem zw_8 (i : Nat) : z_wf (zs_8 i).1 := by
  rw [zn_8]
  exact z_wfA (zw_7 i) (show (3 : Nat) < 10 by decide)
def zs_9 (i : Nat) : z_PV := z_nP (z_ac (zs_8 i) 3 (2 : Int32) (1 : Int32) 0)
theorem zn_9 (i : Nat) : zs_9 i = z_ac (zs_8 i) 3 (2 : Int32) (1 : Int32) 0 := z_nP_eq _
theorem zw_9 (i : Nat) : z_wf (zs_9 i).1 := by
  rw [zn_9]
  exact z_wfA (zw_8 i) (show (3 : Nat) < 10 by decide)
def zs_10 (i : Nat) : z_PV := z_nP ((z_fChg (zs_9 i) (4, (2 : Int32), (19 : Int32), 0, 0)).2.2)
theorem zn_10 (i : Nat) : zs_10 i = (z_fChg (zs_9 i) (4, (2 : Int32), (19 : Int32), 0, 0)).2.2 := z_nP_eq _
theorem zw_10 (i : Nat) : z_wf (zs_10 i).1 := by
  rw [zn_10]
  exact z_wfC (zw_9 i) (show (4 : Nat) < 10 by decide)
def zs_11 (i : Nat) : z_PV := z_nP ((z_fChg (zs_10 i) (5, (1 : Int32), (((nI (10 + i)) + (30 : Int32)) - ((nI (10 + i)) + (30 : Int32)) / (60 : Int32) * (60 : Int32)), (1 : Int32), 0)).2.2)
theorem zn_11 (i : Nat) : zs_11 i = (z_fChg (zs_10 i) (5, (1 : Int32), (((nI (10 + i)) + (30 : Int32)) - ((nI (10 + i)) + (30 : Int32)) / (60 : Int32) * (60 : Int32)), (1 : Int32), 0)).2.2 := z_nP_eq _
theorem zw_11 (i : Nat) : z_wf (zs_11 i).1 := by
  rw [zn_11]
  exact z_wfC (zw_10 i) (show (5 : Nat) < 10 by decide)
def zs_12 (i : Nat) : z_PV := z_nP ((z_fChg (zs_11 i) (5, (2 : Int32), (((nI (10 + i)) + (30 : Int32)) - ((nI (10 + i)) + (30 : Int32)) / (60 : Int32) * (60 : Int32)), (1 : Int32), 0)).2.2)
theorem zn_12 (i : Nat) : zs_12 i = (z_fChg (zs_11 i) (5, (2 : Int32), (((nI (10 + i)) + (30 : Int32)) - ((nI (10 + i)) + (30 : Int32)) / (60 : Int32) * (60 : Int32)), (1 : Int32), 0)).2.2 := z_nP_eq _
theorem zw_12 (i : Nat) : z_wf (zs_12 i).1 := by
  rw [zn_12]
  exact z_wfC (zw_11 i) (show (5 : Nat) < 10 by decide)
def zs_13 (i : Nat) : z_PV := z_nP ((z_fChg (zs_12 i) (6, (0 : Int32), (2 : Int32), 0, 0)).2.2)
theorem zn_13 (i : Nat) : zs_13 i = (z_fChg (zs_12 i) (6, (0 : Int32), (2 : Int32), 0, 0)).2.2 := z_nP_eq _
theorem zw_13 (i : Nat) : z_wf (zs_13 i).1 := by
  rw [zn_13]
  exact z_wfC (zw_12 i) (show (6 : Nat) < 10 by decide)
def zs_14 (i : Nat) : z_PV := z_nP (z_ac (zs_13 i) 6 0 (1 : Int32) 0)
theorem zn_14 (i : Nat) : zs_14 i = z_ac (zs_13 i) 6 0 (1 : Int32) 0 := z_nP_eq _
theorem zw_14 (i : Nat) : z_wf (zs_14 i).1 := by
  rw [zn_14]
  exact z_wfA (zw_13 i) (show (6 : Nat) < 10 by decide)
def zs_15 (i : Nat) : z_PV := z_nP ((z_fChg (zs_14 i) (6, (2 : Int32), (2 : Int32), 0, 0)).2.2)
theorem zn_15 (i : Nat) : zs_15 i = (z_fChg (zs_14 i) (6, (2 : Int32), (2 : Int32), 0, 0)).2.2 := z_nP_eq _
theorem zw_15 (i : Nat) : z_wf (zs_15 i).1 := by
  rw [zn_15]
  exact z_wfC (zw_14 i) (show (6 : Nat) < 10 by decide)
def zs_16 (i : Nat) : z_PV := z_nP (z_setL (zs_15 i) (z_trL (zs_15 i).1))
theorem zn_16 (i : Nat) : zs_16 i = z_setL (zs_15 i) (z_trL (zs_15 i).1) := z_nP_eq _
theorem zw_16 (i : Nat) : z_wf (zs_16 i).1 := by
  rw [zn_16]
  exact z_wfL (zw_15 i)
def zs_17 (i : Nat) : z_PV := z_nP ((z_fChg (zs_16 i) (9, (2 : Int32), 0, 0, 0)).2.2)
theorem zn_17 (i : Nat) : zs_17 i = (z_fChg (zs_16 i) (9, (2 : Int32), 0, 0, 0)).2.2 := z_nP_eq _
theorem zw_17 (i : Nat) : z_wf (zs_17 i).1 := by
  rw [zn_17]
  exact z_wfC (zw_16 i) (show (9 : Nat) < 10 by decide)
def zs_18 (i : Nat) : z_PV := z_nP (z_setL (zs_17 i) (z_trL (zs_17 i).1))
theorem zn_18 (i : Nat) : zs_18 i = z_setL (zs_17 i) (z_trL (zs_17 i).1) := z_nP_eq _
theorem zw_18 (i : Nat) : z_wf (zs_18 i).1 := by
  rw [zn_18]
  exact z_wfL (zw_17 i)
def zs_19 (i : Nat) : z_PV := z_nP ((z_fChg (zs_18 i) (8, 0, 0, 0, 0)).2.2)
theorem zn_19 (i : Nat) : zs_19 i = (z_fChg (zs_18 i) (8, 0, 0, 0, 0)).2.2 := z_nP_eq _
theorem zw_19 (i : Nat) : z_wf (zs_19 i).1 := by
  rw [zn_19]
  exact z_wfC (zw_18 i) (show (8 : Nat) < 10 by decide)
def zs_20 (i : Nat) : z_PV := z_nP (z_setL (zs_19 i) (z_trL (zs_19 i).1))
theorem zn_20 (i : Nat) : zs_20 i = z_setL (zs_19 i) (z_trL (zs_19 i).1) := z_nP_eq _
theorem zw_20 (i : Nat) : z_wf (zs_20 i).1 := by
  rw [zn_20]
  exact z_wfL (zw_19 i)
def zs_21 (i : Nat) : z_PV := z_nP ((z_fChg (zs_20 i) (8, 0, 0, 0, 0)).2.2)
theorem zn_21 (i : Nat) : zs_21 i = (z_fChg (zs_20 i) (8, 0, 0, 0, 0)).2.2 := z_nP_eq _
theorem zw_21 (i : Nat) : z_wf (zs_21 i).1 := by
  rw [zn_21]
  exact z_wfC (zw_20 i) (show (8 : Nat) < 10 by decide)
def zs_22 (i : Nat) : z_PV := z_nP ((z_fChg (zs_21 i) (3, (2 : Int32), (1 : Int32), 0, 0)).2.2)
theorem zn_22 (i : Nat) : zs_22 i = (z_fChg (zs_21 i) (3, (2 : Int32), (1 : Int32), 0, 0)).2.2 := z_nP_eq _
theorem zw_22 (i : Nat) : z_wf (zs_22 i).1 := by
  rw [zn_22]
  exact z_wfC (zw_21 i) (show (3 : Nat) < 10 by decide)
def zs_23 (i : Nat) : z_PV := z_nP ((z_fChg (zs_22 i) (1, (0 : Int32), 0, 0, 0)).2.2)
theorem zn_23 (i : Nat) : zs_23 i = (z_fChg (zs_22 i) (1, (0 : Int32), 0, 0, 0)).2.2 := z_nP_eq _
theorem zw_23 (i : Nat) : z_wf (zs_23 i).1 := by
  rw [zn_23]
  exact z_wfC (zw_22 i) (show (1 : Nat) < 10 by decide)
def zs_24 (i : Nat) : z_PV := z_nP ((z_fChg (zs_23 i) (1, (0 : Int32), 0, 0, 0)).2.2)
theorem zn_24 (i : Nat) : zs_24 i = (z_fChg (zs_23 i) (1, (0 : Int32), 0, 0, 0)).2.2 := z_nP_eq _
theorem zw_24 (i : Nat) : z_wf (zs_24 i).1 := by
  rw [zn_24]
  exact z_wfC (zw_23 i) (show (1 : Nat) < 10 by decide)
def zs_25 (i : Nat) : z_PV := z_nP ((z_fChg (zs_24 i) (9, (19 : Int32), 0, 0, 0)).2.2)
theorem zn_25 (i : Nat) : zs_25 i = (z_fChg (zs_24 i) (9, (19 : Int32), 0, 0, 0)).2.2 := z_nP_eq _
theorem zw_25 (i : Nat) : z_wf (zs_25 i).1 := by
  rw [zn_25]
  exact z_wfC (zw_24 i) (show (9 : Nat) < 10 by decide)
def zs_26 (i : Nat) : z_PV := z_nP (z_ac (zs_25 i) 4 0 (1 : Int32) 0)
theorem zn_26 (i : Nat) : zs_26 i = z_ac (zs_25 i) 4 0 (1 : Int32) 0 := z_nP_eq _
theorem zw_26 (i : Nat) : z_wf (zs_26 i).1 := by
  rw [zn_26]
  exact z_wfA (zw_25 i) (show (4 : Nat) < 10 by decide)
def zs_27 (i : Nat) : z_PV := z_nP ((z_fChg (zs_26 i) (8, 0, 0, 0, 0)).2.2)
theorem zn_27 (i : Nat) : zs_27 i = (z_fChg (zs_26 i) (8, 0, 0, 0, 0)).2.2 := z_nP_eq _
theorem zw_27 (i : Nat) : z_wf (zs_27 i).1 := by
  rw [zn_27]
  exact z_wfC (zw_26 i) (show (8 : Nat) < 10 by decide)
theorem zf_10 : ∀ i, i < 16 → ([] : List Nat).length + (z_lsc 16).length ≤ 100 := by decide +kernel
theorem zf_11 : ∀ i, i < 16 → z_zc 16 (([] : List Nat).length + (z_lsc 16).length) = 16 := by decide +kernel
theorem zf_12 : ∀ i, i < 16 → (([] ++ z_lsc 16) : List Nat).length < 90 := by decide +kernel
theorem zf_13 : ∀ i, i < 16 → z_zc 16 ((([] ++ z_lsc 16) : List Nat).length + (z_dgs (10 + i)).length) = 16 := by decide +kernel
theorem zf_14 : ∀ i, i < 16 → ((([] ++ z_lsc 16) ++ z_dgs (10 + i)) : List Nat).length + (z_lsc 17).length ≤ 100 := by decide +kernel
theorem zf_15 : ∀ i, i < 16 → z_zc 16 (((([] ++ z_lsc 16) ++ z_dgs (10 + i)) : List Nat).length + (z_lsc 17).length) = 34 := by decide +kernel
theorem zf_16 : ∀ i, i < 16 → (((([] ++ z_lsc 16) ++ z_dgs (10 + i)) ++ z_lsc 17) : List Nat).length < 90 := by decide +kernel
theorem zf_17 : ∀ i, i < 16 → z_zc 34 ((((([] ++ z_lsc 16) ++ z_dgs (10 + i)) ++ z_lsc 17) : List Nat).length + (z_dgs (10 + i + 5)).length) = 34 := by decide +kernel
theorem zf_18 : ∀ i, i < 16 → ((((([] ++ z_lsc 16) ++ z_dgs (10 + i)) ++ z_lsc 17) ++ z_dgs (10 + i + 5)) : List Nat).length + (z_lsc 18).length ≤ 100 := by decide +kernel
theorem zf_19 : ∀ i, i < 16 → z_zc 34 (((((([] ++ z_lsc 16) ++ z_dgs (10 + i)) ++ z_lsc 17) ++ z_dgs (10 + i + 5)) : List Nat).length + (z_lsc 18).length) = 34 := by decide +kernel
theorem zf_20 : ∀ i, i < 16 → (((((([] ++ z_lsc 16) ++ z_dgs (10 + i)) ++ z_lsc 17) ++ z_dgs (10 + i + 5)) ++ z_lsc 18) : List Nat).length < 90 := by decide +kernel
theorem zf_21 : ∀ i, i < 16 → z_zc 34 ((((((([] ++ z_lsc 16) ++ z_dgs (10 + i)) ++ z_lsc 17) ++ z_dgs (10 + i + 5)) ++ z_lsc 18) : List Nat).length + (z_dgs (10 + i + 11)).length) = 34 := by decide +kernel
theorem zf_22 : ∀ i, i < 16 → ((((((([] ++ z_lsc 16) ++ z_dgs (10 + i)) ++ z_lsc 17) ++ z_dgs (10 + i + 5)) ++ z_lsc 18) ++ z_dgs (10 + i + 11)) : List Nat).length + (z_lsc 19).length ≤ 100 := by decide +kernel
theorem zf_23 : ∀ i, i < 16 → z_zc 34 (((((((([] ++ z_lsc 16) ++ z_dgs (10 + i)) ++ z_lsc 17) ++ z_dgs (10 + i + 5)) ++ z_lsc 18) ++ z_dgs (10 + i + 11)) : List Nat).length + (z_lsc 19).length) = 70 := by decide +kernel
theorem zf_24 : ∀ i, i < 16 → (((((((([] ++ z_lsc 16) ++ z_dgs (10 + i)) ++ z_lsc 17) ++ z_dgs (10 + i + 5)) ++ z_lsc 18) ++ z_dgs (10 + i + 11)) ++ z_lsc 19) : List Nat).length < 90 := by decide +kernel
theorem zf_25 : ∀ i, i < 16 → z_zc 70 ((((((((([] ++ z_lsc 16) ++ z_dgs (10 + i)) ++ z_lsc 17) ++ z_dgs (10 + i + 5)) ++ z_lsc 18) ++ z_dgs (10 + i + 11)) ++ z_lsc 19) : List Nat).length + (z_dgs (10 + i)).length) = 70 := by decide +kernel
theorem zf_26 : ∀ i, i < 16 → ((((((((([] ++ z_lsc 16) ++ z_dgs (10 + i)) ++ z_lsc 17) ++ z_dgs (10 + i + 5)) ++ z_lsc 18) ++ z_dgs (10 + i + 11)) ++ z_lsc 19) ++ z_dgs (10 + i)) : List Nat).length + (z_lsc 20).length ≤ 100 := by decide +kernel
theorem zf_27 : ∀ i, i < 16 → z_zc 70 (((((((((([] ++ z_lsc 16) ++ z_dgs (10 + i)) ++ z_lsc 17) ++ z_dgs (10 + i + 5)) ++ z_lsc 18) ++ z_dgs (10 + i + 11)) ++ z_lsc 19) ++ z_dgs (10 + i)) : List Nat).length + (z_lsc 20).length) = 70 := by decide +kernel
theorem zf_28 : ∀ i, i < 16 → (zt1 i).length < 70 := by decide +kernel
theorem zf_29 : ∀ i, i < 16 → (zt1 i).length ≤ 100 := by decide +kernel
theorem zf_30 : ∀ i, i < 16 → ∀ c ∈ zt1 i, 32 ≤ c ∧ c ≤ 126 := by decide +kernel
theorem zf_44 : ∀ i, i < 16 → ([] : List Nat).length + (z_lsc 21).length ≤ 100 := by decide +kernel
theorem zf_45 : ∀ i, i < 16 → z_zc 16 (([] : List Nat).length + (z_lsc 21).length) = 16 := by decide +kernel
theorem zf_46 : ∀ i, i < 16 → (([] ++ z_lsc 21) : List Nat).length < 90 := by decide +kernel
theorem zf_47 : ∀ i, i < 16 → z_zc 16 ((([] ++ z_lsc 21) : List Nat).length + (z_dgs (10 + i)).length) = 16 := by decide +kernel
theorem zf_48 : ∀ i, i < 16 → ((([] ++ z_lsc 21) ++ z_dgs (10 + i)) : List Nat).length + (z_lsc 22).length ≤ 100 := by decide +kernel
theorem zf_49 : ∀ i, i < 16 → z_zc 16 (((([] ++ z_lsc 21) ++ z_dgs (10 + i)) : List Nat).length + (z_lsc 22).length) = 16 := by decide +kernel
theorem zf_50 : ∀ i, i < 16 → (zt2 i).length < 16 := by decide +kernel
theorem zf_51 : ∀ i, i < 16 → (zt2 i).length ≤ 100 := by decide +kernel
theorem zf_54 : ∀ i, i < 16 → ([] : List Nat).length + (z_lsc 23).length ≤ 100 := by decide +kernel
theorem zf_55 : ∀ i, i < 16 → z_zc 16 (([] : List Nat).length + (z_lsc 23).length) = 16 := by decide +kernel
theorem zf_56 : ∀ i, i < 16 → (([] ++ z_lsc 23) : List Nat).length < 90 := by decide +kernel
theorem zf_57 : ∀ i, i < 16 → z_zc 16 ((([] ++ z_lsc 23) : List Nat).length + (z_dgs (10 + i)).length) = 16 := by decide +kernel
theorem zf_58 : ∀ i, i < 16 → ((([] ++ z_lsc 23) ++ z_dgs (10 + i)) : List Nat).length + (z_lsc 24).length ≤ 100 := by decide +kernel
theorem zf_59 : ∀ i, i < 16 → z_zc 16 (((([] ++ z_lsc 23) ++ z_dgs (10 + i)) : List Nat).length + (z_lsc 24).length) = 16 := by decide +kernel
theorem zf_60 : ∀ i, i < 16 → (zt3 i).length < 16 := by decide +kernel
theorem zf_61 : ∀ i, i < 16 → (zt3 i).length ≤ 100 := by decide +kernel
theorem zf_1 : ∀ i, i < 16 → nI (z_trL (zs_0 i).1).length = (0 : Int32) := by decide +kernel
theorem zg_4 : ∀ i, i < 16 → ((z_crd (zs_1 i).1 = (0 : Int32)) ∧ (z_acV (zs_1 i) 8 0 0 0 = (-99 : Int32))) ∧ (((z_fReason (zs_2 i) (0 : Int32) (z_I false)).1 = 0 ∧ (z_fReason (zs_2 i) (0 : Int32) (z_I false)).2.1 = (9 : Int32)) ∧ ((z_fReason (zs_2 i) (0 : Int32) (z_I true)).1 = 0 ∧ (z_fReason (zs_2 i) (0 : Int32) (z_I true)).2.1 = (0 : Int32)) ∧ (z_acV (zs_2 i) 3 0 0 0 = (-99 : Int32))) ∧ (((z_fReason (zs_3 i) (0 : Int32) (z_I false)).1 = 0 ∧ (z_fReason (zs_3 i) (0 : Int32) (z_I false)).2.1 = (2 : Int32)) ∧ ((z_fReason (zs_3 i) (0 : Int32) (z_I true)).1 = 0 ∧ (z_fReason (zs_3 i) (0 : Int32) (z_I true)).2.1 = (0 : Int32)) ∧ ((z_fKeeper (zs_3 i) (2 : Int32)).1 = 0 ∧ (z_fKeeper (zs_3 i) (2 : Int32)).2.1 = (-1 : Int32)) ∧ ((zs_3 i).2.2.2.2.2.1.length + (zt1 i).length ≤ 60)) ∧ (((z_fRun (zs_4 i)).1 = 0 ∧ (z_fRun (zs_4 i)).2.1 = (5 : Int32))) := by decide +kernel
theorem zf_2 : ∀ i, i < 16 → z_crd (zs_1 i).1 = (0 : Int32) := fun i hi => (zg_4 i hi).1.1
theorem zf_3 : ∀ i, i < 16 → z_acV (zs_1 i) 8 0 0 0 = (-99 : Int32) := fun i hi => (zg_4 i hi).1.2
theorem zf_4 : ∀ i, i < 16 → (z_fReason (zs_2 i) (0 : Int32) (z_I false)).1 = 0 ∧ (z_fReason (zs_2 i) (0 : Int32) (z_I false)).2.1 = (9 : Int32) := fun i hi => (zg_4 i hi).2.1.1
theorem zf_5 : ∀ i, i < 16 → (z_fReason (zs_2 i) (0 : Int32) (z_I true)).1 = 0 ∧ (z_fReason (zs_2 i) (0 : Int32) (z_I true)).2.1 = (0 : Int32) := fun i hi => (zg_4 i hi).2.1.2.1
theorem zf_6 : ∀ i, i < 16 → z_acV (zs_2 i) 3 0 0 0 = (-99 : Int32) := fun i hi => (zg_4 i hi).2.1.2.2
theorem zf_7 : ∀ i, i < 16 → (z_fReason (zs_3 i) (0 : Int32) (z_I false)).1 = 0 ∧ (z_fReason (zs_3 i) (0 : Int32) (z_I false)).2.1 = (2 : Int32) := fun i hi => (zg_4 i hi).2.2.1.1
theorem zf_8 : ∀ i, i < 16 → (z_fReason (zs_3 i) (0 : Int32) (z_I true)).1 = 0 ∧ (z_fReason (zs_3 i) (0 : Int32) (z_I true)).2.1 = (0 : Int32) := fun i hi => (zg_4 i hi).2.2.1.2.1
theorem zf_9 : ∀ i, i < 16 → (z_fKeeper (zs_3 i) (2 : Int32)).1 = 0 ∧ (z_fKeeper (zs_3 i) (2 : Int32)).2.1 = (-1 : Int32) := fun i hi => (zg_4 i hi).2.2.1.2.2.1
theorem zf_31 : ∀ i, i < 16 → (zs_3 i).2.2.2.2.2.1.length + (zt1 i).length ≤ 60 := fun i hi => (zg_4 i hi).2.2.1.2.2.2
theorem zf_32 : ∀ i, i < 16 → (z_fRun (zs_4 i)).1 = 0 ∧ (z_fRun (zs_4 i)).2.1 = (5 : Int32) := fun i hi => (zg_4 i hi).2.2.2
abbrev zQ_6 (i : Nat) : Prop := (((z_fClockOf (zs_5 i) (0 : Int32) (6 : Int32)).1 = 0 ∧ (z_fClockOf (zs_5 i) (0 : Int32) (6 : Int32)).2.1 = (2 : Int32)) ∧ ((z_fClockOf (zs_5 i) (1 : Int32) (6 : Int32)).1 = 0 ∧ (z_fClockOf (zs_5 i) (1 : Int32) (6 : Int32)).2.1 = (1 : Int32)) ∧ ((z_fClockOf (zs_5 i) (2 : Int32) (6 : Int32)).1 = 0 ∧ (z_fClockOf (zs_5 i) (2 : Int32) (6 : Int32)).2.1 = (0 : Int32)) ∧ ((z_fCircle (zs_5 i) (0 : Int32)).1 = 0 ∧ (z_fCircle (zs_5 i) (0 : Int32)).2.1 = (3 : Int32)) ∧ ((z_fCircle (zs_5 i) (2 : Int32)).1 = 0 ∧ (z_fCircle (zs_5 i) (2 : Int32)).2.1 = (4 : Int32)) ∧ ((z_fApart (zs_5 i) (0 : Int32) (2 : Int32)).1 = 0 ∧ (z_fApart (zs_5 i) (0 : Int32) (2 : Int32)).2.1 = (11 : Int32)) ∧ ((z_fVoters (zs_5 i) (0 : Int32)).1 = 0 ∧ (z_fVoters (zs_5 i) (0 : Int32)).2.1 = (7 : Int32)) ∧ ((z_fMajority (zs_5 i) (0 : Int32)).1 = 0 ∧ (z_fMajority (zs_5 i) (0 : Int32)).2.1 = (1 : Int32))) ∧ (((z_fMajorityAgain (zs_5 i) (0 : Int32)).1 = 0 ∧ (z_fMajorityAgain (zs_5 i) (0 : Int32)).2.1 = (1 : Int32)) ∧ ((z_fWouldCarry (zs_5 i) (0 : Int32)).1 = 0 ∧ (z_fWouldCarry (zs_5 i) (0 : Int32)).2.1 = (0 : Int32)) ∧ (z_crd (zs_5 i).1 = (0 : Int32)) ∧ ((z_fTell (zs_5 i) (0 : Int32)).1 = 0 ∧ (z_fTell (zs_5 i) (0 : Int32)).2.1 = nI (zt2 i).length)) ∧ (((zs_6 i).2.2.2.2.2.2.1 = zt2 i) ∧ ((z_fTellBill (zs_6 i) (0 : Int32)).1 = 0 ∧ (z_fTellBill (zs_6 i) (0 : Int32)).2.1 = nI (zt3 i).length))
theorem zg_6_0 : ∀ i, i < 2 → zQ_6 (0 + i) := by decide +kernel
theorem zg_6_1 : ∀ i, i < 2 → zQ_6 (2 + i) := by decide +kernel
theorem zg_6_2 : ∀ i, i < 2 → zQ_6 (4 + i) := by decide +kernel
theorem zg_6_3 : ∀ i, i < 2 → zQ_6 (6 + i) := by decide +kernel
theorem zg_6_4 : ∀ i, i < 2 → zQ_6 (8 + i) := by decide +kernel
theorem zg_6_5 : ∀ i, i < 2 → zQ_6 (10 + i) := by decide +kernel
theorem zg_6_6 : ∀ i, i < 2 → zQ_6 (12 + i) := by decide +kernel
theorem zg_6_7 : ∀ i, i < 2 → zQ_6 (14 + i) := by decide +kernel
theorem zg_6 : ∀ i, i < 16 → zQ_6 i := z_sx16 zg_6_0 zg_6_1 zg_6_2 zg_6_3 zg_6_4 zg_6_5 zg_6_6 zg_6_7
theorem zf_33 : ∀ i, i < 16 → (z_fClockOf (zs_5 i) (0 : Int32) (6 : Int32)).1 = 0 ∧ (z_fClockOf (zs_5 i) (0 : Int32) (6 : Int32)).2.1 = (2 : Int32) := fun i hi => (zg_6 i hi).1.1
theorem zf_34 : ∀ i, i < 16 → (z_fClockOf (zs_5 i) (1 : Int32) (6 : Int32)).1 = 0 ∧ (z_fClockOf (zs_5 i) (1 : Int32) (6 : Int32)).2.1 = (1 : Int32) := fun i hi => (zg_6 i hi).1.2.1
theorem zf_35 : ∀ i, i < 16 → (z_fClockOf (zs_5 i) (2 : Int32) (6 : Int32)).1 = 0 ∧ (z_fClockOf (zs_5 i) (2 : Int32) (6 : Int32)).2.1 = (0 : Int32) := fun i hi => (zg_6 i hi).1.2.2.1
theorem zf_36 : ∀ i, i < 16 → (z_fCircle (zs_5 i) (0 : Int32)).1 = 0 ∧ (z_fCircle (zs_5 i) (0 : Int32)).2.1 = (3 : Int32) := fun i hi => (zg_6 i hi).1.2.2.2.1
theorem zf_37 : ∀ i, i < 16 → (z_fCircle (zs_5 i) (2 : Int32)).1 = 0 ∧ (z_fCircle (zs_5 i) (2 : Int32)).2.1 = (4 : Int32) := fun i hi => (zg_6 i hi).1.2.2.2.2.1
theorem zf_38 : ∀ i, i < 16 → (z_fApart (zs_5 i) (0 : Int32) (2 : Int32)).1 = 0 ∧ (z_fApart (zs_5 i) (0 : Int32) (2 : Int32)).2.1 = (11 : Int32) := fun i hi => (zg_6 i hi).1.2.2.2.2.2.1
theorem zf_39 : ∀ i, i < 16 → (z_fVoters (zs_5 i) (0 : Int32)).1 = 0 ∧ (z_fVoters (zs_5 i) (0 : Int32)).2.1 = (7 : Int32) := fun i hi => (zg_6 i hi).1.2.2.2.2.2.2.1
theorem zf_40 : ∀ i, i < 16 → (z_fMajority (zs_5 i) (0 : Int32)).1 = 0 ∧ (z_fMajority (zs_5 i) (0 : Int32)).2.1 = (1 : Int32) := fun i hi => (zg_6 i hi).1.2.2.2.2.2.2.2
theorem zf_41 : ∀ i, i < 16 → (z_fMajorityAgain (zs_5 i) (0 : Int32)).1 = 0 ∧ (z_fMajorityAgain (zs_5 i) (0 : Int32)).2.1 = (1 : Int32) := fun i hi => (zg_6 i hi).2.1.1
theorem zf_42 : ∀ i, i < 16 → (z_fWouldCarry (zs_5 i) (0 : Int32)).1 = 0 ∧ (z_fWouldCarry (zs_5 i) (0 : Int32)).2.1 = (0 : Int32) := fun i hi => (zg_6 i hi).2.1.2.1
theorem zf_43 : ∀ i, i < 16 → z_crd (zs_5 i).1 = (0 : Int32) := fun i hi => (zg_6 i hi).2.1.2.2.1
theorem zf_52 : ∀ i, i < 16 → (z_fTell (zs_5 i) (0 : Int32)).1 = 0 ∧ (z_fTell (zs_5 i) (0 : Int32)).2.1 = nI (zt2 i).length := fun i hi => (zg_6 i hi).2.1.2.2.2
theorem zf_53 : ∀ i, i < 16 → (zs_6 i).2.2.2.2.2.2.1 = zt2 i := fun i hi => (zg_6 i hi).2.2.1
theorem zf_62 : ∀ i, i < 16 → (z_fTellBill (zs_6 i) (0 : Int32)).1 = 0 ∧ (z_fTellBill (zs_6 i) (0 : Int32)).2.1 = nI (zt3 i).length := fun i hi => (zg_6 i hi).2.2.2
abbrev zQ_10 (i : Nat) : Prop := (((zs_7 i).2.2.2.2.2.2.1 = zt3 i) ∧ (z_acV (zs_7 i) 3 (2 : Int32) (2 : Int32) 0 = (-99 : Int32))) ∧ (((z_fReason (zs_8 i) (0 : Int32) (z_I false)).1 = 0 ∧ (z_fReason (zs_8 i) (0 : Int32) (z_I false)).2.1 = (10 : Int32)) ∧ ((z_fReason (zs_8 i) (0 : Int32) (z_I true)).1 = 0 ∧ (z_fReason (zs_8 i) (0 : Int32) (z_I true)).2.1 = (11 : Int32)) ∧ (z_acV (zs_8 i) 3 (2 : Int32) (1 : Int32) 0 = (-99 : Int32))) ∧ (((z_fReason (zs_9 i) (0 : Int32) (z_I false)).1 = 0 ∧ (z_fReason (zs_9 i) (0 : Int32) (z_I false)).2.1 = (4 : Int32)) ∧ ((z_fReason (zs_9 i) (0 : Int32) (z_I true)).1 = 0 ∧ (z_fReason (zs_9 i) (0 : Int32) (z_I true)).2.1 = (24 : Int32)) ∧ ((z_fChg (zs_9 i) (4, (2 : Int32), (19 : Int32), 0, 0)).1 = 0 ∧ (z_fChg (zs_9 i) (4, (2 : Int32), (19 : Int32), 0, 0)).2.1 = (((nI (10 + i)) + (30 : Int32)) - ((nI (10 + i)) + (30 : Int32)) / (60 : Int32) * (60 : Int32)))) ∧ (((z_fClockOf (zs_10 i) (2 : Int32) (1 : Int32)).1 = 0 ∧ (z_fClockOf (zs_10 i) (2 : Int32) (1 : Int32)).2.1 = (22 : Int32)) ∧ ((z_fVoters (zs_10 i) (0 : Int32)).1 = 0 ∧ (z_fVoters (zs_10 i) (0 : Int32)).2.1 = (3 : Int32)) ∧ ((z_fMajority (zs_10 i) (0 : Int32)).1 = 0 ∧ (z_fMajority (zs_10 i) (0 : Int32)).2.1 = (4 : Int32)) ∧ ((z_fWouldCarry (zs_10 i) (0 : Int32)).1 = 0 ∧ (z_fWouldCarry (zs_10 i) (0 : Int32)).2.1 = (1 : Int32)) ∧ (z_crd (zs_10 i).1 = (1 : Int32)) ∧ ((z_fChg (zs_10 i) (5, (1 : Int32), (((nI (10 + i)) + (30 : Int32)) - ((nI (10 + i)) + (30 : Int32)) / (60 : Int32) * (60 : Int32)), (1 : Int32), 0)).1 = 0 ∧ (z_fChg (zs_10 i) (5, (1 : Int32), (((nI (10 + i)) + (30 : Int32)) - ((nI (10 + i)) + (30 : Int32)) / (60 : Int32) * (60 : Int32)), (1 : Int32), 0)).2.1 = (1 : Int32)))
theorem zg_10_0 : ∀ i, i < 2 → zQ_10 (0 + i) := by decide +kernel
theorem zg_10_1 : ∀ i, i < 2 → zQ_10 (2 + i) := by decide +kernel
theorem zg_10_2 : ∀ i, i < 2 → zQ_10 (4 + i) := by decide +kernel
theorem zg_10_3 : ∀ i, i < 2 → zQ_10 (6 + i) := by decide +kernel
theorem zg_10_4 : ∀ i, i < 2 → zQ_10 (8 + i) := by decide +kernel
theorem zg_10_5 : ∀ i, i < 2 → zQ_10 (10 + i) := by decide +kernel
theorem zg_10_6 : ∀ i, i < 2 → zQ_10 (12 + i) := by decide +kernel
theorem zg_10_7 : ∀ i, i < 2 → zQ_10 (14 + i) := by decide +kernel
theorem zg_10 : ∀ i, i < 16 → zQ_10 i := z_sx16 zg_10_0 zg_10_1 zg_10_2 zg_10_3 zg_10_4 zg_10_5 zg_10_6 zg_10_7
theorem zf_63 : ∀ i, i < 16 → (zs_7 i).2.2.2.2.2.2.1 = zt3 i := fun i hi => (zg_10 i hi).1.1
theorem zf_64 : ∀ i, i < 16 → z_acV (zs_7 i) 3 (2 : Int32) (2 : Int32) 0 = (-99 : Int32) := fun i hi => (zg_10 i hi).1.2
theorem zf_65 : ∀ i, i < 16 → (z_fReason (zs_8 i) (0 : Int32) (z_I false)).1 = 0 ∧ (z_fReason (zs_8 i) (0 : Int32) (z_I false)).2.1 = (10 : Int32) := fun i hi => (zg_10 i hi).2.1.1
theorem zf_66 : ∀ i, i < 16 → (z_fReason (zs_8 i) (0 : Int32) (z_I true)).1 = 0 ∧ (z_fReason (zs_8 i) (0 : Int32) (z_I true)).2.1 = (11 : Int32) := fun i hi => (zg_10 i hi).2.1.2.1
theorem zf_67 : ∀ i, i < 16 → z_acV (zs_8 i) 3 (2 : Int32) (1 : Int32) 0 = (-99 : Int32) := fun i hi => (zg_10 i hi).2.1.2.2
theorem zf_68 : ∀ i, i < 16 → (z_fReason (zs_9 i) (0 : Int32) (z_I false)).1 = 0 ∧ (z_fReason (zs_9 i) (0 : Int32) (z_I false)).2.1 = (4 : Int32) := fun i hi => (zg_10 i hi).2.2.1.1
theorem zf_69 : ∀ i, i < 16 → (z_fReason (zs_9 i) (0 : Int32) (z_I true)).1 = 0 ∧ (z_fReason (zs_9 i) (0 : Int32) (z_I true)).2.1 = (24 : Int32) := fun i hi => (zg_10 i hi).2.2.1.2.1
theorem zf_70 : ∀ i, i < 16 → (z_fChg (zs_9 i) (4, (2 : Int32), (19 : Int32), 0, 0)).1 = 0 ∧ (z_fChg (zs_9 i) (4, (2 : Int32), (19 : Int32), 0, 0)).2.1 = (((nI (10 + i)) + (30 : Int32)) - ((nI (10 + i)) + (30 : Int32)) / (60 : Int32) * (60 : Int32)) := fun i hi => (zg_10 i hi).2.2.1.2.2
theorem zf_71 : ∀ i, i < 16 → (z_fClockOf (zs_10 i) (2 : Int32) (1 : Int32)).1 = 0 ∧ (z_fClockOf (zs_10 i) (2 : Int32) (1 : Int32)).2.1 = (22 : Int32) := fun i hi => (zg_10 i hi).2.2.2.1
theorem zf_72 : ∀ i, i < 16 → (z_fVoters (zs_10 i) (0 : Int32)).1 = 0 ∧ (z_fVoters (zs_10 i) (0 : Int32)).2.1 = (3 : Int32) := fun i hi => (zg_10 i hi).2.2.2.2.1
theorem zf_73 : ∀ i, i < 16 → (z_fMajority (zs_10 i) (0 : Int32)).1 = 0 ∧ (z_fMajority (zs_10 i) (0 : Int32)).2.1 = (4 : Int32) := fun i hi => (zg_10 i hi).2.2.2.2.2.1
theorem zf_74 : ∀ i, i < 16 → (z_fWouldCarry (zs_10 i) (0 : Int32)).1 = 0 ∧ (z_fWouldCarry (zs_10 i) (0 : Int32)).2.1 = (1 : Int32) := fun i hi => (zg_10 i hi).2.2.2.2.2.2.1
theorem zf_75 : ∀ i, i < 16 → z_crd (zs_10 i).1 = (1 : Int32) := fun i hi => (zg_10 i hi).2.2.2.2.2.2.2.1
theorem zf_76 : ∀ i, i < 16 → (z_fChg (zs_10 i) (5, (1 : Int32), (((nI (10 + i)) + (30 : Int32)) - ((nI (10 + i)) + (30 : Int32)) / (60 : Int32) * (60 : Int32)), (1 : Int32), 0)).1 = 0 ∧ (z_fChg (zs_10 i) (5, (1 : Int32), (((nI (10 + i)) + (30 : Int32)) - ((nI (10 + i)) + (30 : Int32)) / (60 : Int32) * (60 : Int32)), (1 : Int32), 0)).2.1 = (1 : Int32) := fun i hi => (zg_10 i hi).2.2.2.2.2.2.2.2
abbrev zQ_14 (i : Nat) : Prop := (((z_fChg (zs_11 i) (5, (2 : Int32), (((nI (10 + i)) + (30 : Int32)) - ((nI (10 + i)) + (30 : Int32)) / (60 : Int32) * (60 : Int32)), (1 : Int32), 0)).1 = 0 ∧ (z_fChg (zs_11 i) (5, (2 : Int32), (((nI (10 + i)) + (30 : Int32)) - ((nI (10 + i)) + (30 : Int32)) / (60 : Int32) * (60 : Int32)), (1 : Int32), 0)).2.1 = (2 : Int32))) ∧ (((z_fVoters (zs_12 i) (1 : Int32)).1 = 0 ∧ (z_fVoters (zs_12 i) (1 : Int32)).2.1 = (4 : Int32)) ∧ ((z_fMajority (zs_12 i) (1 : Int32)).1 = 0 ∧ (z_fMajority (zs_12 i) (1 : Int32)).2.1 = (-3 : Int32)) ∧ ((z_fChg (zs_12 i) (6, (0 : Int32), (2 : Int32), 0, 0)).1 = 0 ∧ (z_fChg (zs_12 i) (6, (0 : Int32), (2 : Int32), 0, 0)).2.1 = (1 : Int32))) ∧ ((z_acV (zs_13 i) 6 0 (1 : Int32) 0 = (-99 : Int32))) ∧ (((z_fReason (zs_14 i) (0 : Int32) (z_I false)).1 = 0 ∧ (z_fReason (zs_14 i) (0 : Int32) (z_I false)).2.1 = (8 : Int32)) ∧ ((z_fReason (zs_14 i) (0 : Int32) (z_I true)).1 = 0 ∧ (z_fReason (zs_14 i) (0 : Int32) (z_I true)).2.1 = (2 : Int32)) ∧ ((z_fChg (zs_14 i) (6, (2 : Int32), (2 : Int32), 0, 0)).1 = 0 ∧ (z_fChg (zs_14 i) (6, (2 : Int32), (2 : Int32), 0, 0)).2.1 = (2 : Int32)))
theorem zg_14_0 : ∀ i, i < 2 → zQ_14 (0 + i) := by decide +kernel
theorem zg_14_1 : ∀ i, i < 2 → zQ_14 (2 + i) := by decide +kernel
theorem zg_14_2 : ∀ i, i < 2 → zQ_14 (4 + i) := by decide +kernel
theorem zg_14_3 : ∀ i, i < 2 → zQ_14 (6 + i) := by decide +kernel
theorem zg_14_4 : ∀ i, i < 2 → zQ_14 (8 + i) := by decide +kernel
theorem zg_14_5 : ∀ i, i < 2 → zQ_14 (10 + i) := by decide +kernel
theorem zg_14_6 : ∀ i, i < 2 → zQ_14 (12 + i) := by decide +kernel
theorem zg_14_7 : ∀ i, i < 2 → zQ_14 (14 + i) := by decide +kernel
theorem zg_14 : ∀ i, i < 16 → zQ_14 i := z_sx16 zg_14_0 zg_14_1 zg_14_2 zg_14_3 zg_14_4 zg_14_5 zg_14_6 zg_14_7
theorem zf_77 : ∀ i, i < 16 → (z_fChg (zs_11 i) (5, (2 : Int32), (((nI (10 + i)) + (30 : Int32)) - ((nI (10 + i)) + (30 : Int32)) / (60 : Int32) * (60 : Int32)), (1 : Int32), 0)).1 = 0 ∧ (z_fChg (zs_11 i) (5, (2 : Int32), (((nI (10 + i)) + (30 : Int32)) - ((nI (10 + i)) + (30 : Int32)) / (60 : Int32) * (60 : Int32)), (1 : Int32), 0)).2.1 = (2 : Int32) := fun i hi => (zg_14 i hi).1
theorem zf_78 : ∀ i, i < 16 → (z_fVoters (zs_12 i) (1 : Int32)).1 = 0 ∧ (z_fVoters (zs_12 i) (1 : Int32)).2.1 = (4 : Int32) := fun i hi => (zg_14 i hi).2.1.1
theorem zf_79 : ∀ i, i < 16 → (z_fMajority (zs_12 i) (1 : Int32)).1 = 0 ∧ (z_fMajority (zs_12 i) (1 : Int32)).2.1 = (-3 : Int32) := fun i hi => (zg_14 i hi).2.1.2.1
theorem zf_80 : ∀ i, i < 16 → (z_fChg (zs_12 i) (6, (0 : Int32), (2 : Int32), 0, 0)).1 = 0 ∧ (z_fChg (zs_12 i) (6, (0 : Int32), (2 : Int32), 0, 0)).2.1 = (1 : Int32) := fun i hi => (zg_14 i hi).2.1.2.2
theorem zf_81 : ∀ i, i < 16 → z_acV (zs_13 i) 6 0 (1 : Int32) 0 = (-99 : Int32) := fun i hi => (zg_14 i hi).2.2.1
theorem zf_82 : ∀ i, i < 16 → (z_fReason (zs_14 i) (0 : Int32) (z_I false)).1 = 0 ∧ (z_fReason (zs_14 i) (0 : Int32) (z_I false)).2.1 = (8 : Int32) := fun i hi => (zg_14 i hi).2.2.2.1
theorem zf_83 : ∀ i, i < 16 → (z_fReason (zs_14 i) (0 : Int32) (z_I true)).1 = 0 ∧ (z_fReason (zs_14 i) (0 : Int32) (z_I true)).2.1 = (2 : Int32) := fun i hi => (zg_14 i hi).2.2.2.2.1
theorem zf_84 : ∀ i, i < 16 → (z_fChg (zs_14 i) (6, (2 : Int32), (2 : Int32), 0, 0)).1 = 0 ∧ (z_fChg (zs_14 i) (6, (2 : Int32), (2 : Int32), 0, 0)).2.1 = (2 : Int32) := fun i hi => (zg_14 i hi).2.2.2.2.2
abbrev zQ_18 (i : Nat) : Prop := ((nI (z_trL (zs_15 i).1).length = nI (z_lsc 25).length)) ∧ (((zs_16 i).2.2.2.2.2.2.1 = z_lsc 25) ∧ ((z_fNext (zs_16 i)).1 = 0 ∧ (z_fNext (zs_16 i)).2.1 = (2 : Int32)) ∧ ((z_fRowIn (zs_16 i) (1 : Int32) (0 : Int32)).1 = 0 ∧ (z_fRowIn (zs_16 i) (1 : Int32) (0 : Int32)).2.1 = (1 : Int32)) ∧ ((z_fRowIn (zs_16 i) (2 : Int32) (0 : Int32)).1 = 0 ∧ (z_fRowIn (zs_16 i) (2 : Int32) (0 : Int32)).2.1 = (0 : Int32)) ∧ ((z_fRowAgain (zs_16 i) (2 : Int32) (1 : Int32)).1 = 0 ∧ (z_fRowAgain (zs_16 i) (2 : Int32) (1 : Int32)).2.1 = (2 : Int32)) ∧ ((z_fRowIn (zs_16 i) (2 : Int32) (2 : Int32)).1 = 0 ∧ (z_fRowIn (zs_16 i) (2 : Int32) (2 : Int32)).2.1 = (1 : Int32)) ∧ ((z_fChg (zs_16 i) (9, (2 : Int32), 0, 0, 0)).1 = 0 ∧ (z_fChg (zs_16 i) (9, (2 : Int32), 0, 0, 0)).2.1 = (2 : Int32))) ∧ ((nI (z_trL (zs_17 i).1).length = nI (z_lsc 26).length)) ∧ (((zs_18 i).2.2.2.2.2.2.1 = z_lsc 26) ∧ ((z_fAccount (zs_18 i) (10 : Int32)).1 = 0 ∧ (z_fAccount (zs_18 i) (10 : Int32)).2.1 = (2 : Int32)) ∧ ((z_fClockOf (zs_18 i) (0 : Int32) (1 : Int32)).1 = 0 ∧ (z_fClockOf (zs_18 i) (0 : Int32) (1 : Int32)).2.1 = (22 : Int32)) ∧ ((z_fClockOf (zs_18 i) (0 : Int32) (0 : Int32)).1 = 0 ∧ (z_fClockOf (zs_18 i) (0 : Int32) (0 : Int32)).2.1 = ((nI (10 + i)) + (2 : Int32))) ∧ ((z_fChg (zs_18 i) (8, 0, 0, 0, 0)).1 = 0 ∧ (z_fChg (zs_18 i) (8, 0, 0, 0, 0)).2.1 = (4 : Int32)))
theorem zg_18_0 : ∀ i, i < 2 → zQ_18 (0 + i) := by decide +kernel
theorem zg_18_1 : ∀ i, i < 2 → zQ_18 (2 + i) := by decide +kernel
theorem zg_18_2 : ∀ i, i < 2 → zQ_18 (4 + i) := by decide +kernel
theorem zg_18_3 : ∀ i, i < 2 → zQ_18 (6 + i) := by decide +kernel
theorem zg_18_4 : ∀ i, i < 2 → zQ_18 (8 + i) := by decide +kernel
theorem zg_18_5 : ∀ i, i < 2 → zQ_18 (10 + i) := by decide +kernel
theorem zg_18_6 : ∀ i, i < 2 → zQ_18 (12 + i) := by decide +kernel
theorem zg_18_7 : ∀ i, i < 2 → zQ_18 (14 + i) := by decide +kernel
theorem zg_18 : ∀ i, i < 16 → zQ_18 i := z_sx16 zg_18_0 zg_18_1 zg_18_2 zg_18_3 zg_18_4 zg_18_5 zg_18_6 zg_18_7
theorem zf_85 : ∀ i, i < 16 → nI (z_trL (zs_15 i).1).length = nI (z_lsc 25).length := fun i hi => (zg_18 i hi).1
theorem zf_86 : ∀ i, i < 16 → (zs_16 i).2.2.2.2.2.2.1 = z_lsc 25 := fun i hi => (zg_18 i hi).2.1.1
theorem zf_87 : ∀ i, i < 16 → (z_fNext (zs_16 i)).1 = 0 ∧ (z_fNext (zs_16 i)).2.1 = (2 : Int32) := fun i hi => (zg_18 i hi).2.1.2.1
theorem zf_88 : ∀ i, i < 16 → (z_fRowIn (zs_16 i) (1 : Int32) (0 : Int32)).1 = 0 ∧ (z_fRowIn (zs_16 i) (1 : Int32) (0 : Int32)).2.1 = (1 : Int32) := fun i hi => (zg_18 i hi).2.1.2.2.1
theorem zf_89 : ∀ i, i < 16 → (z_fRowIn (zs_16 i) (2 : Int32) (0 : Int32)).1 = 0 ∧ (z_fRowIn (zs_16 i) (2 : Int32) (0 : Int32)).2.1 = (0 : Int32) := fun i hi => (zg_18 i hi).2.1.2.2.2.1
theorem zf_90 : ∀ i, i < 16 → (z_fRowAgain (zs_16 i) (2 : Int32) (1 : Int32)).1 = 0 ∧ (z_fRowAgain (zs_16 i) (2 : Int32) (1 : Int32)).2.1 = (2 : Int32) := fun i hi => (zg_18 i hi).2.1.2.2.2.2.1
theorem zf_91 : ∀ i, i < 16 → (z_fRowIn (zs_16 i) (2 : Int32) (2 : Int32)).1 = 0 ∧ (z_fRowIn (zs_16 i) (2 : Int32) (2 : Int32)).2.1 = (1 : Int32) := fun i hi => (zg_18 i hi).2.1.2.2.2.2.2.1
theorem zf_92 : ∀ i, i < 16 → (z_fChg (zs_16 i) (9, (2 : Int32), 0, 0, 0)).1 = 0 ∧ (z_fChg (zs_16 i) (9, (2 : Int32), 0, 0, 0)).2.1 = (2 : Int32) := fun i hi => (zg_18 i hi).2.1.2.2.2.2.2.2
theorem zf_93 : ∀ i, i < 16 → nI (z_trL (zs_17 i).1).length = nI (z_lsc 26).length := fun i hi => (zg_18 i hi).2.2.1
theorem zf_94 : ∀ i, i < 16 → (zs_18 i).2.2.2.2.2.2.1 = z_lsc 26 := fun i hi => (zg_18 i hi).2.2.2.1
theorem zf_95 : ∀ i, i < 16 → (z_fAccount (zs_18 i) (10 : Int32)).1 = 0 ∧ (z_fAccount (zs_18 i) (10 : Int32)).2.1 = (2 : Int32) := fun i hi => (zg_18 i hi).2.2.2.2.1
theorem zf_96 : ∀ i, i < 16 → (z_fClockOf (zs_18 i) (0 : Int32) (1 : Int32)).1 = 0 ∧ (z_fClockOf (zs_18 i) (0 : Int32) (1 : Int32)).2.1 = (22 : Int32) := fun i hi => (zg_18 i hi).2.2.2.2.2.1
theorem zf_97 : ∀ i, i < 16 → (z_fClockOf (zs_18 i) (0 : Int32) (0 : Int32)).1 = 0 ∧ (z_fClockOf (zs_18 i) (0 : Int32) (0 : Int32)).2.1 = ((nI (10 + i)) + (2 : Int32)) := fun i hi => (zg_18 i hi).2.2.2.2.2.2.1
theorem zf_98 : ∀ i, i < 16 → (z_fChg (zs_18 i) (8, 0, 0, 0, 0)).1 = 0 ∧ (z_fChg (zs_18 i) (8, 0, 0, 0, 0)).2.1 = (4 : Int32) := fun i hi => (zg_18 i hi).2.2.2.2.2.2.2
abbrev zQ_20 (i : Nat) : Prop := (((z_fAccount (zs_19 i) (7 : Int32)).1 = 0 ∧ (z_fAccount (zs_19 i) (7 : Int32)).2.1 = (1 : Int32)) ∧ (nI (z_trL (zs_19 i).1).length = nI (z_lsc 27).length)) ∧ (((zs_20 i).2.2.2.2.2.2.1 = z_lsc 27) ∧ ((z_fClockOf (zs_20 i) (0 : Int32) (5 : Int32)).1 = 0 ∧ (z_fClockOf (zs_20 i) (0 : Int32) (5 : Int32)).2.1 = (1 : Int32)) ∧ ((z_fClockOf (zs_20 i) (0 : Int32) (1 : Int32)).1 = 0 ∧ (z_fClockOf (zs_20 i) (0 : Int32) (1 : Int32)).2.1 = (21 : Int32)) ∧ ((z_fChg (zs_20 i) (8, 0, 0, 0, 0)).1 = 0 ∧ (z_fChg (zs_20 i) (8, 0, 0, 0, 0)).2.1 = (-3 : Int32)))
theorem zg_20_0 : ∀ i, i < 2 → zQ_20 (0 + i) := by decide +kernel
theorem zg_20_1 : ∀ i, i < 2 → zQ_20 (2 + i) := by decide +kernel
theorem zg_20_2 : ∀ i, i < 2 → zQ_20 (4 + i) := by decide +kernel
theorem zg_20_3 : ∀ i, i < 2 → zQ_20 (6 + i) := by decide +kernel
theorem zg_20_4 : ∀ i, i < 2 → zQ_20 (8 + i) := by decide +kernel
theorem zg_20_5 : ∀ i, i < 2 → zQ_20 (10 + i) := by decide +kernel
theorem zg_20_6 : ∀ i, i < 2 → zQ_20 (12 + i) := by decide +kernel
theorem zg_20_7 : ∀ i, i < 2 → zQ_20 (14 + i) := by decide +kernel
theorem zg_20 : ∀ i, i < 16 → zQ_20 i := z_sx16 zg_20_0 zg_20_1 zg_20_2 zg_20_3 zg_20_4 zg_20_5 zg_20_6 zg_20_7
theorem zf_99 : ∀ i, i < 16 → (z_fAccount (zs_19 i) (7 : Int32)).1 = 0 ∧ (z_fAccount (zs_19 i) (7 : Int32)).2.1 = (1 : Int32) := fun i hi => (zg_20 i hi).1.1
theorem zf_100 : ∀ i, i < 16 → nI (z_trL (zs_19 i).1).length = nI (z_lsc 27).length := fun i hi => (zg_20 i hi).1.2
theorem zf_101 : ∀ i, i < 16 → (zs_20 i).2.2.2.2.2.2.1 = z_lsc 27 := fun i hi => (zg_20 i hi).2.1
theorem zf_102 : ∀ i, i < 16 → (z_fClockOf (zs_20 i) (0 : Int32) (5 : Int32)).1 = 0 ∧ (z_fClockOf (zs_20 i) (0 : Int32) (5 : Int32)).2.1 = (1 : Int32) := fun i hi => (zg_20 i hi).2.2.1
theorem zf_103 : ∀ i, i < 16 → (z_fClockOf (zs_20 i) (0 : Int32) (1 : Int32)).1 = 0 ∧ (z_fClockOf (zs_20 i) (0 : Int32) (1 : Int32)).2.1 = (21 : Int32) := fun i hi => (zg_20 i hi).2.2.2.1
theorem zf_104 : ∀ i, i < 16 → (z_fChg (zs_20 i) (8, 0, 0, 0, 0)).1 = 0 ∧ (z_fChg (zs_20 i) (8, 0, 0, 0, 0)).2.1 = (-3 : Int32) := fun i hi => (zg_20 i hi).2.2.2.2
abbrev zQ_24 (i : Nat) : Prop := (((z_fAccount (zs_21 i) (8 : Int32)).1 = 0 ∧ (z_fAccount (zs_21 i) (8 : Int32)).2.1 = (1 : Int32)) ∧ ((z_fAccount (zs_21 i) (9 : Int32)).1 = 0 ∧ (z_fAccount (zs_21 i) (9 : Int32)).2.1 = (9 : Int32)) ∧ ((z_fAccount (zs_21 i) (2 : Int32)).1 = 0 ∧ (z_fAccount (zs_21 i) (2 : Int32)).2.1 = (1 : Int32)) ∧ ((z_fBillOf (zs_21 i) (0 : Int32) (0 : Int32)).1 = 0 ∧ (z_fBillOf (zs_21 i) (0 : Int32) (0 : Int32)).2.1 = (1 : Int32)) ∧ ((z_fChg (zs_21 i) (3, (2 : Int32), (1 : Int32), 0, 0)).1 = 0 ∧ (z_fChg (zs_21 i) (3, (2 : Int32), (1 : Int32), 0, 0)).2.1 = (21 : Int32))) ∧ (((z_fAccount (zs_22 i) (11 : Int32)).1 = 0 ∧ (z_fAccount (zs_22 i) (11 : Int32)).2.1 = (1 : Int32)) ∧ ((zs_22 i).1.2.2 1 = 2 ∧ (zs_22 i).1.2.2 2 = 1) ∧ ((z_fSilentIn (zs_22 i) (2 : Int32)).1 = 0 ∧ (z_fSilentIn (zs_22 i) (2 : Int32)).2.1 = (19 : Int32)) ∧ ((z_fSecondIn (zs_22 i) (2 : Int32) (48 : Int32)).1 = 0 ∧ (z_fSecondIn (zs_22 i) (2 : Int32) (48 : Int32)).2.1 = ((((nI (10 + i)) + (32 : Int32)) + (18 : Int32)) - (((nI (10 + i)) + (32 : Int32)) + (18 : Int32)) / (60 : Int32) * (60 : Int32))) ∧ ((z_fChg (zs_22 i) (1, (0 : Int32), 0, 0, 0)).1 = 0 ∧ (z_fChg (zs_22 i) (1, (0 : Int32), 0, 0, 0)).2.1 = (2 : Int32))) ∧ (((z_fKeeper (zs_23 i) (2 : Int32)).1 = 0 ∧ (z_fKeeper (zs_23 i) (2 : Int32)).2.1 = (-1 : Int32)) ∧ ((z_fBillOf (zs_23 i) (0 : Int32) (0 : Int32)).1 = 0 ∧ (z_fBillOf (zs_23 i) (0 : Int32) (0 : Int32)).2.1 = (0 : Int32)) ∧ ((z_fChg (zs_23 i) (1, (0 : Int32), 0, 0, 0)).1 = 0 ∧ (z_fChg (zs_23 i) (1, (0 : Int32), 0, 0, 0)).2.1 = (1 : Int32))) ∧ (((z_fBillOf (zs_24 i) (0 : Int32) (0 : Int32)).1 = 0 ∧ (z_fBillOf (zs_24 i) (0 : Int32) (0 : Int32)).2.1 = (-1 : Int32)) ∧ ((z_fChg (zs_24 i) (9, (19 : Int32), 0, 0, 0)).1 = 0 ∧ (z_fChg (zs_24 i) (9, (19 : Int32), 0, 0, 0)).2.1 = (0 : Int32)))
theorem zg_24_0 : ∀ i, i < 2 → zQ_24 (0 + i) := by decide +kernel
theorem zg_24_1 : ∀ i, i < 2 → zQ_24 (2 + i) := by decide +kernel
theorem zg_24_2 : ∀ i, i < 2 → zQ_24 (4 + i) := by decide +kernel
theorem zg_24_3 : ∀ i, i < 2 → zQ_24 (6 + i) := by decide +kernel
theorem zg_24_4 : ∀ i, i < 2 → zQ_24 (8 + i) := by decide +kernel
theorem zg_24_5 : ∀ i, i < 2 → zQ_24 (10 + i) := by decide +kernel
theorem zg_24_6 : ∀ i, i < 2 → zQ_24 (12 + i) := by decide +kernel
theorem zg_24_7 : ∀ i, i < 2 → zQ_24 (14 + i) := by decide +kernel
theorem zg_24 : ∀ i, i < 16 → zQ_24 i := z_sx16 zg_24_0 zg_24_1 zg_24_2 zg_24_3 zg_24_4 zg_24_5 zg_24_6 zg_24_7
theorem zf_105 : ∀ i, i < 16 → (z_fAccount (zs_21 i) (8 : Int32)).1 = 0 ∧ (z_fAccount (zs_21 i) (8 : Int32)).2.1 = (1 : Int32) := fun i hi => (zg_24 i hi).1.1
theorem zf_106 : ∀ i, i < 16 → (z_fAccount (zs_21 i) (9 : Int32)).1 = 0 ∧ (z_fAccount (zs_21 i) (9 : Int32)).2.1 = (9 : Int32) := fun i hi => (zg_24 i hi).1.2.1
theorem zf_107 : ∀ i, i < 16 → (z_fAccount (zs_21 i) (2 : Int32)).1 = 0 ∧ (z_fAccount (zs_21 i) (2 : Int32)).2.1 = (1 : Int32) := fun i hi => (zg_24 i hi).1.2.2.1
theorem zf_108 : ∀ i, i < 16 → (z_fBillOf (zs_21 i) (0 : Int32) (0 : Int32)).1 = 0 ∧ (z_fBillOf (zs_21 i) (0 : Int32) (0 : Int32)).2.1 = (1 : Int32) := fun i hi => (zg_24 i hi).1.2.2.2.1
theorem zf_109 : ∀ i, i < 16 → (z_fChg (zs_21 i) (3, (2 : Int32), (1 : Int32), 0, 0)).1 = 0 ∧ (z_fChg (zs_21 i) (3, (2 : Int32), (1 : Int32), 0, 0)).2.1 = (21 : Int32) := fun i hi => (zg_24 i hi).1.2.2.2.2
theorem zf_110 : ∀ i, i < 16 → (z_fAccount (zs_22 i) (11 : Int32)).1 = 0 ∧ (z_fAccount (zs_22 i) (11 : Int32)).2.1 = (1 : Int32) := fun i hi => (zg_24 i hi).2.1.1
theorem zf_111 : ∀ i, i < 16 → (zs_22 i).1.2.2 1 = 2 ∧ (zs_22 i).1.2.2 2 = 1 := fun i hi => (zg_24 i hi).2.1.2.1
theorem zf_112 : ∀ i, i < 16 → (z_fSilentIn (zs_22 i) (2 : Int32)).1 = 0 ∧ (z_fSilentIn (zs_22 i) (2 : Int32)).2.1 = (19 : Int32) := fun i hi => (zg_24 i hi).2.1.2.2.1
theorem zf_113 : ∀ i, i < 16 → (z_fSecondIn (zs_22 i) (2 : Int32) (48 : Int32)).1 = 0 ∧ (z_fSecondIn (zs_22 i) (2 : Int32) (48 : Int32)).2.1 = ((((nI (10 + i)) + (32 : Int32)) + (18 : Int32)) - (((nI (10 + i)) + (32 : Int32)) + (18 : Int32)) / (60 : Int32) * (60 : Int32)) := fun i hi => (zg_24 i hi).2.1.2.2.2.1
theorem zf_114 : ∀ i, i < 16 → (z_fChg (zs_22 i) (1, (0 : Int32), 0, 0, 0)).1 = 0 ∧ (z_fChg (zs_22 i) (1, (0 : Int32), 0, 0, 0)).2.1 = (2 : Int32) := fun i hi => (zg_24 i hi).2.1.2.2.2.2
theorem zf_115 : ∀ i, i < 16 → (z_fKeeper (zs_23 i) (2 : Int32)).1 = 0 ∧ (z_fKeeper (zs_23 i) (2 : Int32)).2.1 = (-1 : Int32) := fun i hi => (zg_24 i hi).2.2.1.1
theorem zf_116 : ∀ i, i < 16 → (z_fBillOf (zs_23 i) (0 : Int32) (0 : Int32)).1 = 0 ∧ (z_fBillOf (zs_23 i) (0 : Int32) (0 : Int32)).2.1 = (0 : Int32) := fun i hi => (zg_24 i hi).2.2.1.2.1
theorem zf_117 : ∀ i, i < 16 → (z_fChg (zs_23 i) (1, (0 : Int32), 0, 0, 0)).1 = 0 ∧ (z_fChg (zs_23 i) (1, (0 : Int32), 0, 0, 0)).2.1 = (1 : Int32) := fun i hi => (zg_24 i hi).2.2.1.2.2
theorem zf_118 : ∀ i, i < 16 → (z_fBillOf (zs_24 i) (0 : Int32) (0 : Int32)).1 = 0 ∧ (z_fBillOf (zs_24 i) (0 : Int32) (0 : Int32)).2.1 = (-1 : Int32) := fun i hi => (zg_24 i hi).2.2.2.1
theorem zf_119 : ∀ i, i < 16 → (z_fChg (zs_24 i) (9, (19 : Int32), 0, 0, 0)).1 = 0 ∧ (z_fChg (zs_24 i) (9, (19 : Int32), 0, 0, 0)).2.1 = (0 : Int32) := fun i hi => (zg_24 i hi).2.2.2.2
abbrev zQ_27 (i : Nat) : Prop := (((z_fAccount (zs_25 i) (1 : Int32)).1 = 0 ∧ (z_fAccount (zs_25 i) (1 : Int32)).2.1 = (1 : Int32)) ∧ (z_acV (zs_25 i) 4 0 (1 : Int32) 0 = (-99 : Int32))) ∧ (((z_fReason (zs_26 i) (0 : Int32) (z_I false)).1 = 0 ∧ (z_fReason (zs_26 i) (0 : Int32) (z_I false)).2.1 = (7 : Int32)) ∧ ((z_fChg (zs_26 i) (8, 0, 0, 0, 0)).1 = 0 ∧ (z_fChg (zs_26 i) (8, 0, 0, 0, 0)).2.1 = (0 : Int32))) ∧ (((z_fBillOf (zs_27 i) (0 : Int32) (3 : Int32)).1 = 0 ∧ (z_fBillOf (zs_27 i) (0 : Int32) (3 : Int32)).2.1 = (1 : Int32)) ∧ ((z_fAccount (zs_27 i) (6 : Int32)).1 = 0 ∧ (z_fAccount (zs_27 i) (6 : Int32)).2.1 = (2 : Int32)) ∧ ((z_fWeakest (zs_27 i)).1 = 0 ∧ (z_fWeakest (zs_27 i)).2.1 = (0 : Int32)))
theorem zg_27_0 : ∀ i, i < 2 → zQ_27 (0 + i) := by decide +kernel
theorem zg_27_1 : ∀ i, i < 2 → zQ_27 (2 + i) := by decide +kernel
theorem zg_27_2 : ∀ i, i < 2 → zQ_27 (4 + i) := by decide +kernel
theorem zg_27_3 : ∀ i, i < 2 → zQ_27 (6 + i) := by decide +kernel
theorem zg_27_4 : ∀ i, i < 2 → zQ_27 (8 + i) := by decide +kernel
theorem zg_27_5 : ∀ i, i < 2 → zQ_27 (10 + i) := by decide +kernel
theorem zg_27_6 : ∀ i, i < 2 → zQ_27 (12 + i) := by decide +kernel
theorem zg_27_7 : ∀ i, i < 2 → zQ_27 (14 + i) := by decide +kernel
theorem zg_27 : ∀ i, i < 16 → zQ_27 i := z_sx16 zg_27_0 zg_27_1 zg_27_2 zg_27_3 zg_27_4 zg_27_5 zg_27_6 zg_27_7
theorem zf_120 : ∀ i, i < 16 → (z_fAccount (zs_25 i) (1 : Int32)).1 = 0 ∧ (z_fAccount (zs_25 i) (1 : Int32)).2.1 = (1 : Int32) := fun i hi => (zg_27 i hi).1.1
theorem zf_121 : ∀ i, i < 16 → z_acV (zs_25 i) 4 0 (1 : Int32) 0 = (-99 : Int32) := fun i hi => (zg_27 i hi).1.2
theorem zf_122 : ∀ i, i < 16 → (z_fReason (zs_26 i) (0 : Int32) (z_I false)).1 = 0 ∧ (z_fReason (zs_26 i) (0 : Int32) (z_I false)).2.1 = (7 : Int32) := fun i hi => (zg_27 i hi).2.1.1
theorem zf_123 : ∀ i, i < 16 → (z_fChg (zs_26 i) (8, 0, 0, 0, 0)).1 = 0 ∧ (z_fChg (zs_26 i) (8, 0, 0, 0, 0)).2.1 = (0 : Int32) := fun i hi => (zg_27 i hi).2.1.2
theorem zf_124 : ∀ i, i < 16 → (z_fBillOf (zs_27 i) (0 : Int32) (3 : Int32)).1 = 0 ∧ (z_fBillOf (zs_27 i) (0 : Int32) (3 : Int32)).2.1 = (1 : Int32) := fun i hi => (zg_27 i hi).2.2.1
theorem zf_125 : ∀ i, i < 16 → (z_fAccount (zs_27 i) (6 : Int32)).1 = 0 ∧ (z_fAccount (zs_27 i) (6 : Int32)).2.1 = (2 : Int32) := fun i hi => (zg_27 i hi).2.2.2.1
theorem zf_126 : ∀ i, i < 16 → (z_fWeakest (zs_27 i)).1 = 0 ∧ (z_fWeakest (zs_27 i)).2.1 = (0 : Int32) := fun i hi => (zg_27 i hi).2.2.2.2
