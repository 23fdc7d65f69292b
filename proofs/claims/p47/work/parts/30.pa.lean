/-! Cells by place: what is kept where every cell of a part is. -/
theorem z_Hs.keptX {h h' : z_H} {a : Nat} {v : z_HV} (hH : z_Hs h a v) (hF : ∀ k, a ≤ k → k < a + 25 → h'.2 k = h.2 k) : z_Hs h' a v := by
  have li : ∀ {ci k c : Nat} {cap : Nat → Nat} {fs : List Value} {x : z_LV}, z_Li ci k cap fs h c x → (∀ j, c ≤ j → j < c + (2 * k + 1) → h'.2 j = h.2 j) → z_Li ci k cap fs h' c x := fun {ci k c cap fs x} hL hE =>
    ⟨(hE _ (by omega) (by omega)).trans hL.1, fun j hj => (hL.2 j hj).kept (hE _ (by omega) (by omega)) (hE _ (by omega) (by omega))⟩
  exact ⟨(hF _ (by omega) (by omega)).trans hH.1, li hH.2.1 (fun j e1 e2 => hF j (by omega) (by omega)), li hH.2.2 (fun j e1 e2 => hF j (by omega) (by omega))⟩
theorem z_Hy.keptX {h h' : z_H} {a k : Nat} {H : Nat → z_HV} (hY : z_Hy h a k H) (hF : ∀ k, a ≤ k → k < a + 202 → h'.2 k = h.2 k) : z_Hy h' a k H := by
  obtain ⟨o, P, f, y1, y2, y3, y4, y5, y6, y7⟩ := hY
  exact ⟨o, P, f, (hF _ (by omega) (by omega)).trans y1, (hF _ (by omega) (by omega)).trans y2, y3, fun i hi => (y4 i hi).keptX (fun j e1 e2 => hF j (by omega) (by omega)), y5, y6, y7⟩
/-! The object of the class, in parts. -/
def z_Pa (h : z_H) (p : Nat) (B : Nat → Prop) (ri : Nat) (rl : Nat) (hs : z_HV) (sp : z_HV) (sv : z_HV) (b : Bool) (k : Nat) (H : Nat → z_HV) (inp : List Nat) (ln : List Nat) (pos : Nat) (ot : z_OV) (o : z_OV) (f : Int32 × Int32) (kp : Int32 × Int32) (cs : Int32 × Int32) (flt : Int32) : Prop :=
  h.2 p = some (.inr (8, [.ref (p + 1), .ref (p + 26), .ref (p + 51), .int (if b = true then 1 else 0), .ref (p + 76), .ref (p + 278), .ref (p + 282), .ref (p + 283), .ref (p + 285), .ref (p + 286), .ref (p + 287), .int flt])) ∧
  z_Hs h (p + 1) hs ∧
  z_Hs h (p + 26) sp ∧
  z_Hs h (p + 51) sv ∧
  z_Hy h (p + 76) k H ∧
  z_Tc h (p + 278) pos ∧
  z_Sb h (p + 279) ri 0 inp ∧
  z_Or h (p + 281) ot ∧
  z_Or h (p + 282) o ∧
  z_Sb h (p + 283) rl 0 ln ∧
  z_Rf h (p + 285) f ∧
  z_Rf h (p + 286) kp ∧
  z_Rf h (p + 287) cs ∧
  ((ri = p + 280 ∨ B ri) ∧ (rl = p + 284 ∨ B rl) ∧ ri ≠ rl ∧ (∀ k, B k → p + 288 ≤ k) ∧ (∀ k, 1000 + h.1 ≤ k → B k) ∧ 1000 ≤ p) ∧
  z_inp inp ∧
  ln.length ≤ 40 ∧
  pos ≤ inp.length
/-- below B nothing is changed but in the object -/
def z_Px (p : Nat) (B : Nat → Prop) (h h' : z_H) : Prop := h.1 ≤ h'.1 ∧ ∀ k, ¬ B k → (k < p ∨ p + 288 ≤ k) → h'.2 k = h.2 k
theorem z_Px.refl (p : Nat) (B : Nat → Prop) (h : z_H) : z_Px p B h h := ⟨Nat.le_refl _, fun _ _ _ => rfl⟩
theorem z_Px.trans {p : Nat} {B : Nat → Prop} {h h1 h2 : z_H} (x : z_Px p B h h1) (y : z_Px p B h1 h2) : z_Px p B h h2 := ⟨Nat.le_trans x.1 y.1, fun k e1 e2 => (y.2 k e1 e2).trans (x.2 k e1 e2)⟩
theorem z_Px.of {p : Nat} {B : Nat → Prop} {a m : Nat} {h h' : z_H} (x : z_Fr a m h h') (h1 : p ≤ a) (h2 : a + m ≤ p + 288) : z_Px p B h h' := ⟨Nat.le_of_eq x.1.symm, fun k _ e => x.2 k (by omega)⟩
theorem z_Px.more {p : Nat} {B : Nat → Prop} {n : Nat} {h h' : z_H} (x : z_Px p B h h') (hn : h'.1 ≤ n) : z_Px p B h (n, h'.2) := ⟨Nat.le_trans x.1 hn, x.2⟩
theorem z_HyC {h : z_H} {a k : Nat} {H : Nat → z_HV} (hY : z_Hy h a k H) : ∃ fs, h.2 a = some (.inr (2, fs)) := by
  obtain ⟨o, P, f, y1, -⟩ := hY
  exact ⟨_, y1⟩
section ZPa
variable {h : z_H} {p : Nat} {B : Nat → Prop} {ri : Nat} {rl : Nat} {hs : z_HV} {sp : z_HV} {sv : z_HV} {b : Bool} {k : Nat} {H : Nat → z_HV} {inp : List Nat} {ln : List Nat} {pos : Nat} {ot : z_OV} {o : z_OV} {f : Int32 × Int32} {kp : Int32 × Int32} {cs : Int32 × Int32} {flt : Int32}
theorem z_Pa.c0 (x : z_Pa h p B ri rl hs sp sv b k H inp ln pos ot o f kp cs flt) : h.2 p = some (.inr (8, [.ref (p + 1), .ref (p + 26), .ref (p + 51), .int (if b = true then 1 else 0), .ref (p + 76), .ref (p + 278), .ref (p + 282), .ref (p + 283), .ref (p + 285), .ref (p + 286), .ref (p + 287), .int flt])) := x.1
theorem z_Pa.h0 (x : z_Pa h p B ri rl hs sp sv b k H inp ln pos ot o f kp cs flt) : z_Hs h (p + 1) hs := x.2.1
theorem z_Pa.h1 (x : z_Pa h p B ri rl hs sp sv b k H inp ln pos ot o f kp cs flt) : z_Hs h (p + 26) sp := x.2.2.1
theorem z_Pa.h2 (x : z_Pa h p B ri rl hs sp sv b k H inp ln pos ot o f kp cs flt) : z_Hs h (p + 51) sv := x.2.2.2.1
theorem z_Pa.hy (x : z_Pa h p B ri rl hs sp sv b k H inp ln pos ot o f kp cs flt) : z_Hy h (p + 76) k H := x.2.2.2.2.1
theorem z_Pa.tc (x : z_Pa h p B ri rl hs sp sv b k H inp ln pos ot o f kp cs flt) : z_Tc h (p + 278) pos := x.2.2.2.2.2.1
theorem z_Pa.ti (x : z_Pa h p B ri rl hs sp sv b k H inp ln pos ot o f kp cs flt) : z_Sb h (p + 279) ri 0 inp := x.2.2.2.2.2.2.1
theorem z_Pa.to (x : z_Pa h p B ri rl hs sp sv b k H inp ln pos ot o f kp cs flt) : z_Or h (p + 281) ot := x.2.2.2.2.2.2.2.1
theorem z_Pa.od (x : z_Pa h p B ri rl hs sp sv b k H inp ln pos ot o f kp cs flt) : z_Or h (p + 282) o := x.2.2.2.2.2.2.2.2.1
theorem z_Pa.lb (x : z_Pa h p B ri rl hs sp sv b k H inp ln pos ot o f kp cs flt) : z_Sb h (p + 283) rl 0 ln := x.2.2.2.2.2.2.2.2.2.1
theorem z_Pa.fd (x : z_Pa h p B ri rl hs sp sv b k H inp ln pos ot o f kp cs flt) : z_Rf h (p + 285) f := x.2.2.2.2.2.2.2.2.2.2.1
theorem z_Pa.kc (x : z_Pa h p B ri rl hs sp sv b k H inp ln pos ot o f kp cs flt) : z_Rf h (p + 286) kp := x.2.2.2.2.2.2.2.2.2.2.2.1
theorem z_Pa.cc (x : z_Pa h p B ri rl hs sp sv b k H inp ln pos ot o f kp cs flt) : z_Rf h (p + 287) cs := x.2.2.2.2.2.2.2.2.2.2.2.2.1
theorem z_Pa.nu (x : z_Pa h p B ri rl hs sp sv b k H inp ln pos ot o f kp cs flt) : ((ri = p + 280 ∨ B ri) ∧ (rl = p + 284 ∨ B rl) ∧ ri ≠ rl ∧ (∀ k, B k → p + 288 ≤ k) ∧ (∀ k, 1000 + h.1 ≤ k → B k) ∧ 1000 ≤ p) := x.2.2.2.2.2.2.2.2.2.2.2.2.2.1
theorem z_Pa.wi (x : z_Pa h p B ri rl hs sp sv b k H inp ln pos ot o f kp cs flt) : z_inp inp := x.2.2.2.2.2.2.2.2.2.2.2.2.2.2.1
theorem z_Pa.wl (x : z_Pa h p B ri rl hs sp sv b k H inp ln pos ot o f kp cs flt) : ln.length ≤ 40 := x.2.2.2.2.2.2.2.2.2.2.2.2.2.2.2.1
theorem z_Pa.wp (x : z_Pa h p B ri rl hs sp sv b k H inp ln pos ot o f kp cs flt) : pos ≤ inp.length := x.2.2.2.2.2.2.2.2.2.2.2.2.2.2.2.2
theorem z_Pa.l_h0 {h' : z_H} {hs2 : z_HV} (x : z_Pa h p B ri rl hs sp sv b k H inp ln pos ot o f kp cs flt) (hX : z_Hs h' (p + 1) hs2) (hF : z_Fr (p + 1) 25 h h') : z_Pa h' p B ri rl hs2 sp sv b k H inp ln pos ot o f kp cs flt ∧ z_Px p B h h' := by
  obtain ⟨n1, n2, n3, n4, n5, n6⟩ := x.nu
  have m1 := n1.imp_right (n4 _)
  have m2 := n2.imp_right (n4 _)
  have m7 := n4 _ (n5 _ (Nat.le_refl _))
  exact ⟨⟨(hF.2 (p) (by omega)).trans x.c0, hX, x.h1.kept hF (by omega), x.h2.kept hF (by omega), x.hy.kept hF (by omega), (hF.2 (p + 278) (by omega)).trans x.tc, x.ti.kept hF (by omega), (hF.2 (p + 281) (by omega)).trans x.to, (hF.2 (p + 282) (by omega)).trans x.od, x.lb.kept hF (by omega), (hF.2 (p + 285) (by omega)).trans x.fd, (hF.2 (p + 286) (by omega)).trans x.kc, (hF.2 (p + 287) (by omega)).trans x.cc, ⟨n1, n2, n3, n4, by rw [hF.1]; exact n5, n6⟩, x.wi, x.wl, x.wp⟩, z_Px.of hF (by omega) (by omega)⟩
theorem z_Pa.l_h1 {h' : z_H} {sp2 : z_HV} (x : z_Pa h p B ri rl hs sp sv b k H inp ln pos ot o f kp cs flt) (hX : z_Hs h' (p + 26) sp2) (hF : z_Fr (p + 26) 25 h h') : z_Pa h' p B ri rl hs sp2 sv b k H inp ln pos ot o f kp cs flt ∧ z_Px p B h h' := by
  obtain ⟨n1, n2, n3, n4, n5, n6⟩ := x.nu
  have m1 := n1.imp_right (n4 _)
  have m2 := n2.imp_right (n4 _)
  have m7 := n4 _ (n5 _ (Nat.le_refl _))
  exact ⟨⟨(hF.2 (p) (by omega)).trans x.c0, x.h0.kept hF (by omega), hX, x.h2.kept hF (by omega), x.hy.kept hF (by omega), (hF.2 (p + 278) (by omega)).trans x.tc, x.ti.kept hF (by omega), (hF.2 (p + 281) (by omega)).trans x.to, (hF.2 (p + 282) (by omega)).trans x.od, x.lb.kept hF (by omega), (hF.2 (p + 285) (by omega)).trans x.fd, (hF.2 (p + 286) (by omega)).trans x.kc, (hF.2 (p + 287) (by omega)).trans x.cc, ⟨n1, n2, n3, n4, by rw [hF.1]; exact n5, n6⟩, x.wi, x.wl, x.wp⟩, z_Px.of hF (by omega) (by omega)⟩
theorem z_Pa.l_h2 {h' : z_H} {sv2 : z_HV} (x : z_Pa h p B ri rl hs sp sv b k H inp ln pos ot o f kp cs flt) (hX : z_Hs h' (p + 51) sv2) (hF : z_Fr (p + 51) 25 h h') : z_Pa h' p B ri rl hs sp sv2 b k H inp ln pos ot o f kp cs flt ∧ z_Px p B h h' := by
  obtain ⟨n1, n2, n3, n4, n5, n6⟩ := x.nu
  have m1 := n1.imp_right (n4 _)
  have m2 := n2.imp_right (n4 _)
  have m7 := n4 _ (n5 _ (Nat.le_refl _))
  exact ⟨⟨(hF.2 (p) (by omega)).trans x.c0, x.h0.kept hF (by omega), x.h1.kept hF (by omega), hX, x.hy.kept hF (by omega), (hF.2 (p + 278) (by omega)).trans x.tc, x.ti.kept hF (by omega), (hF.2 (p + 281) (by omega)).trans x.to, (hF.2 (p + 282) (by omega)).trans x.od, x.lb.kept hF (by omega), (hF.2 (p + 285) (by omega)).trans x.fd, (hF.2 (p + 286) (by omega)).trans x.kc, (hF.2 (p + 287) (by omega)).trans x.cc, ⟨n1, n2, n3, n4, by rw [hF.1]; exact n5, n6⟩, x.wi, x.wl, x.wp⟩, z_Px.of hF (by omega) (by omega)⟩
theorem z_Pa.l_od {h' : z_H} {o2 : z_OV} (x : z_Pa h p B ri rl hs sp sv b k H inp ln pos ot o f kp cs flt) (hX : z_Or h' (p + 282) o2) (hF : z_Fr (p + 282) 1 h h') : z_Pa h' p B ri rl hs sp sv b k H inp ln pos ot o2 f kp cs flt ∧ z_Px p B h h' := by
  obtain ⟨n1, n2, n3, n4, n5, n6⟩ := x.nu
  have m1 := n1.imp_right (n4 _)
  have m2 := n2.imp_right (n4 _)
  have m7 := n4 _ (n5 _ (Nat.le_refl _))
  exact ⟨⟨(hF.2 (p) (by omega)).trans x.c0, x.h0.kept hF (by omega), x.h1.kept hF (by omega), x.h2.kept hF (by omega), x.hy.kept hF (by omega), (hF.2 (p + 278) (by omega)).trans x.tc, x.ti.kept hF (by omega), (hF.2 (p + 281) (by omega)).trans x.to, hX, x.lb.kept hF (by omega), (hF.2 (p + 285) (by omega)).trans x.fd, (hF.2 (p + 286) (by omega)).trans x.kc, (hF.2 (p + 287) (by omega)).trans x.cc, ⟨n1, n2, n3, n4, by rw [hF.1]; exact n5, n6⟩, x.wi, x.wl, x.wp⟩, z_Px.of hF (by omega) (by omega)⟩
theorem z_Pa.l_fd {h' : z_H} {f2 : Int32 × Int32} (x : z_Pa h p B ri rl hs sp sv b k H inp ln pos ot o f kp cs flt) (hX : z_Rf h' (p + 285) f2) (hF : z_Fr (p + 285) 1 h h') : z_Pa h' p B ri rl hs sp sv b k H inp ln pos ot o f2 kp cs flt ∧ z_Px p B h h' := by
  obtain ⟨n1, n2, n3, n4, n5, n6⟩ := x.nu
  have m1 := n1.imp_right (n4 _)
  have m2 := n2.imp_right (n4 _)
  have m7 := n4 _ (n5 _ (Nat.le_refl _))
  exact ⟨⟨(hF.2 (p) (by omega)).trans x.c0, x.h0.kept hF (by omega), x.h1.kept hF (by omega), x.h2.kept hF (by omega), x.hy.kept hF (by omega), (hF.2 (p + 278) (by omega)).trans x.tc, x.ti.kept hF (by omega), (hF.2 (p + 281) (by omega)).trans x.to, (hF.2 (p + 282) (by omega)).trans x.od, x.lb.kept hF (by omega), hX, (hF.2 (p + 286) (by omega)).trans x.kc, (hF.2 (p + 287) (by omega)).trans x.cc, ⟨n1, n2, n3, n4, by rw [hF.1]; exact n5, n6⟩, x.wi, x.wl, x.wp⟩, z_Px.of hF (by omega) (by omega)⟩
theorem z_Pa.l_kc {h' : z_H} {kp2 : Int32 × Int32} (x : z_Pa h p B ri rl hs sp sv b k H inp ln pos ot o f kp cs flt) (hX : z_Rf h' (p + 286) kp2) (hF : z_Fr (p + 286) 1 h h') : z_Pa h' p B ri rl hs sp sv b k H inp ln pos ot o f kp2 cs flt ∧ z_Px p B h h' := by
  obtain ⟨n1, n2, n3, n4, n5, n6⟩ := x.nu
  have m1 := n1.imp_right (n4 _)
  have m2 := n2.imp_right (n4 _)
  have m7 := n4 _ (n5 _ (Nat.le_refl _))
  exact ⟨⟨(hF.2 (p) (by omega)).trans x.c0, x.h0.kept hF (by omega), x.h1.kept hF (by omega), x.h2.kept hF (by omega), x.hy.kept hF (by omega), (hF.2 (p + 278) (by omega)).trans x.tc, x.ti.kept hF (by omega), (hF.2 (p + 281) (by omega)).trans x.to, (hF.2 (p + 282) (by omega)).trans x.od, x.lb.kept hF (by omega), (hF.2 (p + 285) (by omega)).trans x.fd, hX, (hF.2 (p + 287) (by omega)).trans x.cc, ⟨n1, n2, n3, n4, by rw [hF.1]; exact n5, n6⟩, x.wi, x.wl, x.wp⟩, z_Px.of hF (by omega) (by omega)⟩
theorem z_Pa.l_cc {h' : z_H} {cs2 : Int32 × Int32} (x : z_Pa h p B ri rl hs sp sv b k H inp ln pos ot o f kp cs flt) (hX : z_Rf h' (p + 287) cs2) (hF : z_Fr (p + 287) 1 h h') : z_Pa h' p B ri rl hs sp sv b k H inp ln pos ot o f kp cs2 flt ∧ z_Px p B h h' := by
  obtain ⟨n1, n2, n3, n4, n5, n6⟩ := x.nu
  have m1 := n1.imp_right (n4 _)
  have m2 := n2.imp_right (n4 _)
  have m7 := n4 _ (n5 _ (Nat.le_refl _))
  exact ⟨⟨(hF.2 (p) (by omega)).trans x.c0, x.h0.kept hF (by omega), x.h1.kept hF (by omega), x.h2.kept hF (by omega), x.hy.kept hF (by omega), (hF.2 (p + 278) (by omega)).trans x.tc, x.ti.kept hF (by omega), (hF.2 (p + 281) (by omega)).trans x.to, (hF.2 (p + 282) (by omega)).trans x.od, x.lb.kept hF (by omega), (hF.2 (p + 285) (by omega)).trans x.fd, (hF.2 (p + 286) (by omega)).trans x.kc, hX, ⟨n1, n2, n3, n4, by rw [hF.1]; exact n5, n6⟩, x.wi, x.wl, x.wp⟩, z_Px.of hF (by omega) (by omega)⟩
theorem z_Pa.l_hy {h' : z_H} {k2 : Nat} {H2 : Nat → z_HV} (x : z_Pa h p B ri rl hs sp sv b k H inp ln pos ot o f kp cs flt) (hX : z_Hy h' (p + 76) k2 H2) (hF : z_Fr (p + 76) 202 h h') : z_Pa h' p B ri rl hs sp sv b k2 H2 inp ln pos ot o f kp cs flt ∧ z_Px p B h h' := by
  obtain ⟨n1, n2, n3, n4, n5, n6⟩ := x.nu
  have m1 := n1.imp_right (n4 _)
  have m2 := n2.imp_right (n4 _)
  have m7 := n4 _ (n5 _ (Nat.le_refl _))
  exact ⟨⟨(hF.2 (p) (by omega)).trans x.c0, x.h0.kept hF (by omega), x.h1.kept hF (by omega), x.h2.kept hF (by omega), hX, (hF.2 (p + 278) (by omega)).trans x.tc, x.ti.kept hF (by omega), (hF.2 (p + 281) (by omega)).trans x.to, (hF.2 (p + 282) (by omega)).trans x.od, x.lb.kept hF (by omega), (hF.2 (p + 285) (by omega)).trans x.fd, (hF.2 (p + 286) (by omega)).trans x.kc, (hF.2 (p + 287) (by omega)).trans x.cc, ⟨n1, n2, n3, n4, by rw [hF.1]; exact n5, n6⟩, x.wi, x.wl, x.wp⟩, z_Px.of hF (by omega) (by omega)⟩
theorem z_Pa.l_c0 {h' : z_H} {b2 : Bool} {flt2 : Int32} (x : z_Pa h p B ri rl hs sp sv b k H inp ln pos ot o f kp cs flt) (hX : h'.2 p = some (.inr (8, [.ref (p + 1), .ref (p + 26), .ref (p + 51), .int (if b2 = true then 1 else 0), .ref (p + 76), .ref (p + 278), .ref (p + 282), .ref (p + 283), .ref (p + 285), .ref (p + 286), .ref (p + 287), .int flt2]))) (hF : z_Fr p 1 h h') : z_Pa h' p B ri rl hs sp sv b2 k H inp ln pos ot o f kp cs flt2 ∧ z_Px p B h h' := by
  obtain ⟨n1, n2, n3, n4, n5, n6⟩ := x.nu
  have m1 := n1.imp_right (n4 _)
  have m2 := n2.imp_right (n4 _)
  have m7 := n4 _ (n5 _ (Nat.le_refl _))
  exact ⟨⟨hX, x.h0.kept hF (by omega), x.h1.kept hF (by omega), x.h2.kept hF (by omega), x.hy.kept hF (by omega), (hF.2 (p + 278) (by omega)).trans x.tc, x.ti.kept hF (by omega), (hF.2 (p + 281) (by omega)).trans x.to, (hF.2 (p + 282) (by omega)).trans x.od, x.lb.kept hF (by omega), (hF.2 (p + 285) (by omega)).trans x.fd, (hF.2 (p + 286) (by omega)).trans x.kc, (hF.2 (p + 287) (by omega)).trans x.cc, ⟨n1, n2, n3, n4, by rw [hF.1]; exact n5, n6⟩, x.wi, x.wl, x.wp⟩, z_Px.of hF (by omega) (by omega)⟩
theorem z_Pa.l_to {h' : z_H} {pos2 : Nat} {ot2 : z_OV} (x : z_Pa h p B ri rl hs sp sv b k H inp ln pos ot o f kp cs flt) (hT : z_Tc h' (p + 278) pos2) (hX : z_Or h' (p + 281) ot2) (hF : z_F2 (p + 278) (p + 281) h h') (hp : pos2 ≤ inp.length) : z_Pa h' p B ri rl hs sp sv b k H inp ln pos2 ot2 o f kp cs flt ∧ z_Px p B h h' := by
  obtain ⟨n1, n2, n3, n4, n5, n6⟩ := x.nu
  have m1 := n1.imp_right (n4 _)
  have m2 := n2.imp_right (n4 _)
  have m7 := n4 _ (n5 _ (Nat.le_refl _))
  exact ⟨⟨(hF.2 (p) (by omega) (by omega)).trans x.c0, x.h0.keptX (fun k e1 e2 => hF.2 k (by omega) (by omega)), x.h1.keptX (fun k e1 e2 => hF.2 k (by omega) (by omega)), x.h2.keptX (fun k e1 e2 => hF.2 k (by omega) (by omega)), x.hy.keptX (fun k e1 e2 => hF.2 k (by omega) (by omega)), hT, x.ti.kept2 hF (by omega), hX, (hF.2 (p + 282) (by omega) (by omega)).trans x.od, x.lb.kept2 hF (by omega), (hF.2 (p + 285) (by omega) (by omega)).trans x.fd, (hF.2 (p + 286) (by omega) (by omega)).trans x.kc, (hF.2 (p + 287) (by omega) (by omega)).trans x.cc, ⟨n1, n2, n3, n4, by rw [hF.1]; exact n5, n6⟩, x.wi, x.wl, hp⟩, Nat.le_of_eq hF.1.symm, fun k e1 e2 => hF.2 k (by omega) (by omega)⟩
theorem z_Pa.l_rd {h' : z_H} {pos2 : Nat} {o2 : z_OV} (x : z_Pa h p B ri rl hs sp sv b k H inp ln pos ot o f kp cs flt) (hT : z_Tc h' (p + 278) pos2) (hX : z_Or h' (p + 282) o2) (hF : z_F2 (p + 278) (p + 282) h h') (hp : pos2 ≤ inp.length) : z_Pa h' p B ri rl hs sp sv b k H inp ln pos2 ot o2 f kp cs flt ∧ z_Px p B h h' := by
  obtain ⟨n1, n2, n3, n4, n5, n6⟩ := x.nu
  have m1 := n1.imp_right (n4 _)
  have m2 := n2.imp_right (n4 _)
  have m7 := n4 _ (n5 _ (Nat.le_refl _))
  exact ⟨⟨(hF.2 (p) (by omega) (by omega)).trans x.c0, x.h0.keptX (fun k e1 e2 => hF.2 k (by omega) (by omega)), x.h1.keptX (fun k e1 e2 => hF.2 k (by omega) (by omega)), x.h2.keptX (fun k e1 e2 => hF.2 k (by omega) (by omega)), x.hy.keptX (fun k e1 e2 => hF.2 k (by omega) (by omega)), hT, x.ti.kept2 hF (by omega), (hF.2 (p + 281) (by omega) (by omega)).trans x.to, hX, x.lb.kept2 hF (by omega), (hF.2 (p + 285) (by omega) (by omega)).trans x.fd, (hF.2 (p + 286) (by omega) (by omega)).trans x.kc, (hF.2 (p + 287) (by omega) (by omega)).trans x.cc, ⟨n1, n2, n3, n4, by rw [hF.1]; exact n5, n6⟩, x.wi, x.wl, hp⟩, Nat.le_of_eq hF.1.symm, fun k e1 e2 => hF.2 k (by omega) (by omega)⟩
theorem z_Pa.l_ln {h' : z_H} {rl2 : Nat} {ln2 : List Nat} (x : z_Pa h p B ri rl hs sp sv b k H inp ln pos ot o f kp cs flt) (hX : z_Sb h' (p + 283) rl2 0 ln2) (hr : rl2 = rl ∨ 1000 + h.1 ≤ rl2) (hx : z_Fx (p + 283) rl h h') (hl : ln2.length ≤ 40) : z_Pa h' p B ri rl2 hs sp sv b k H inp ln2 pos ot o f kp cs flt ∧ z_Px p B h h' := by
  obtain ⟨n1, n2, n3, n4, n5, n6⟩ := x.nu
  have m1 := n1.imp_right (n4 _)
  have m2 := n2.imp_right (n4 _)
  have m7 := n4 _ (n5 _ (Nat.le_refl _))
  have sbr : ∀ {a r m : Nat} {l : List Nat}, z_Sb h a r m l → r < 1000 + h.1 := fun q => by
    obtain ⟨cap, ml, g, s1, s2, s3, s4, s5, s6, s7, s8, s9, s10⟩ := q
    exact s9
  have hG := hx.1
  have hri := sbr x.ti
  have hF : ∀ k, k < 1000 + h.1 → (k ≠ p + 283 ∧ k ≠ rl) → h'.2 k = h.2 k := fun k e1 e2 => hx.2 k e1 e2.1 e2.2
  have nu2 : (ri = p + 280 ∨ B ri) ∧ (rl2 = p + 284 ∨ B rl2) ∧ ri ≠ rl2 ∧ (∀ k, B k → p + 288 ≤ k) ∧ (∀ k, 1000 + h'.1 ≤ k → B k) ∧ 1000 ≤ p := ⟨n1, hr.elim (fun e => by rw [e]; exact n2) (fun e => Or.inr (n5 _ e)), by omega, n4, fun k hk => n5 k (by omega), n6⟩
  have fin : ∀ k, ¬ B k → (k < p ∨ p + 288 ≤ k) → h'.2 k = h.2 k := fun k e1 e2 => by
    have e3 : k < 1000 + h.1 := Nat.lt_of_not_le fun e => e1 (n5 _ e)
    have e4 : k ≠ rl := fun e => n2.elim (fun e9 => by omega) (fun e9 => e1 (by rw [e]; exact e9))
    exact hF k e3 (by omega)
  exact ⟨⟨(hF (p) (by omega) (by omega)).trans x.c0, x.h0.keptX (fun k e1 e2 => hF k (by omega) (by omega)), x.h1.keptX (fun k e1 e2 => hF k (by omega) (by omega)), x.h2.keptX (fun k e1 e2 => hF k (by omega) (by omega)), x.hy.keptX (fun k e1 e2 => hF k (by omega) (by omega)), (hF (p + 278) (by omega) (by omega)).trans x.tc, x.ti.keptX hG (hF _ (by omega) (by omega)) (hF _ (sbr x.ti) (by omega)), (hF (p + 281) (by omega) (by omega)).trans x.to, (hF (p + 282) (by omega) (by omega)).trans x.od, hX, (hF (p + 285) (by omega) (by omega)).trans x.fd, (hF (p + 286) (by omega) (by omega)).trans x.kc, (hF (p + 287) (by omega) (by omega)).trans x.cc, nu2, x.wi, hl, x.wp⟩, hG, fin⟩
theorem z_Pa.l_ti {h' : z_H} {ri2 pos2 : Nat} {inp2 : List Nat} (x : z_Pa h p B ri rl hs sp sv b k H inp ln pos ot o f kp cs flt) (hX : z_Sb h' (p + 279) ri2 0 inp2) (hT : z_Tc h' (p + 278) pos2) (hr : ri2 = ri ∨ 1000 + h.1 ≤ ri2) (hG : h.1 ≤ h'.1) (hF0 : ∀ k, k < 1000 + h.1 → k ≠ p + 278 → k ≠ p + 279 → k ≠ ri → h'.2 k = h.2 k) (hi : z_inp inp2) (hp : pos2 ≤ inp2.length) : z_Pa h' p B ri2 rl hs sp sv b k H inp2 ln pos2 ot o f kp cs flt ∧ z_Px p B h h' := by
  obtain ⟨n1, n2, n3, n4, n5, n6⟩ := x.nu
  have m1 := n1.imp_right (n4 _)
  have m2 := n2.imp_right (n4 _)
  have m7 := n4 _ (n5 _ (Nat.le_refl _))
  have sbr : ∀ {a r m : Nat} {l : List Nat}, z_Sb h a r m l → r < 1000 + h.1 := fun q => by
    obtain ⟨cap, ml, g, s1, s2, s3, s4, s5, s6, s7, s8, s9, s10⟩ := q
    exact s9
  have hrl := sbr x.lb
  have hF : ∀ k, k < 1000 + h.1 → (k ≠ p + 278 ∧ k ≠ p + 279 ∧ k ≠ ri) → h'.2 k = h.2 k := fun k e1 e2 => hF0 k e1 e2.1 e2.2.1 e2.2.2
  have nu2 : (ri2 = p + 280 ∨ B ri2) ∧ (rl = p + 284 ∨ B rl) ∧ ri2 ≠ rl ∧ (∀ k, B k → p + 288 ≤ k) ∧ (∀ k, 1000 + h'.1 ≤ k → B k) ∧ 1000 ≤ p := ⟨hr.elim (fun e => by rw [e]; exact n1) (fun e => Or.inr (n5 _ e)), n2, by omega, n4, fun k hk => n5 k (by omega), n6⟩
  have fin : ∀ k, ¬ B k → (k < p ∨ p + 288 ≤ k) → h'.2 k = h.2 k := fun k e1 e2 => by
    have e3 : k < 1000 + h.1 := Nat.lt_of_not_le fun e => e1 (n5 _ e)
    have e4 : k ≠ ri := fun e => n1.elim (fun e9 => by omega) (fun e9 => e1 (by rw [e]; exact e9))
    exact hF k e3 (by omega)
  exact ⟨⟨(hF (p) (by omega) (by omega)).trans x.c0, x.h0.keptX (fun k e1 e2 => hF k (by omega) (by omega)), x.h1.keptX (fun k e1 e2 => hF k (by omega) (by omega)), x.h2.keptX (fun k e1 e2 => hF k (by omega) (by omega)), x.hy.keptX (fun k e1 e2 => hF k (by omega) (by omega)), hT, hX, (hF (p + 281) (by omega) (by omega)).trans x.to, (hF (p + 282) (by omega) (by omega)).trans x.od, x.lb.keptX hG (hF _ (by omega) (by omega)) (hF _ (sbr x.lb) (by omega)), (hF (p + 285) (by omega) (by omega)).trans x.fd, (hF (p + 286) (by omega) (by omega)).trans x.kc, (hF (p + 287) (by omega) (by omega)).trans x.cc, nu2, hi, x.wl, hp⟩, hG, fin⟩
theorem z_Pa.more {n : Nat} (x : z_Pa h p B ri rl hs sp sv b k H inp ln pos ot o f kp cs flt) (hn : h.1 ≤ n) : z_Pa (n, h.2) p B ri rl hs sp sv b k H inp ln pos ot o f kp cs flt := by
  obtain ⟨n1, n2, n3, n4, n5, n6⟩ := x.nu
  have m1 := n1.imp_right (n4 _)
  have m2 := n2.imp_right (n4 _)
  have m7 := n4 _ (n5 _ (Nat.le_refl _))
  have sb : ∀ {a r m : Nat} {l : List Nat}, z_Sb h a r m l → z_Sb (n, h.2) a r m l := fun q => q.keptX hn rfl rfl
  exact ⟨x.c0, x.h0, x.h1, x.h2, x.hy, x.tc, sb x.ti, x.to, x.od, sb x.lb, x.fd, x.kc, x.cc, ⟨n1, n2, n3, n4, fun k hk => n5 k (by have : 1000 + n ≤ k := hk; omega), n6⟩, x.wi, x.wl, x.wp⟩
end ZPa
/-- house, what was saved, whether it was, changes, what was before them, input, line, reason, cause, fault -/
abbrev z_PV : Type := z_HV × z_HV × Bool × Nat × (Nat → z_HV) × List Nat × List Nat × (Int32 × Int32) × (Int32 × Int32) × Int32
def z_P (h : z_H) (p : Nat) (B : Nat → Prop) (x : z_PV) : Prop := ∃ (ri rl : Nat) (sp : z_HV) (pos : Nat) (ot o : z_OV) (f : Int32 × Int32), z_Pa h p B ri rl x.1 sp x.2.1 x.2.2.1 x.2.2.2.1 x.2.2.2.2.1 x.2.2.2.2.2.1 x.2.2.2.2.2.2.1 pos ot o f x.2.2.2.2.2.2.2.1 x.2.2.2.2.2.2.2.2.1 x.2.2.2.2.2.2.2.2.2
theorem z_P.more {h : z_H} {p : Nat} {B : Nat → Prop} {n : Nat} {x : z_PV} (hP : z_P h p B x) (hn : h.1 ≤ n) : z_P (n, h.2) p B x := by
  obtain ⟨ri, rl, sp, pos, ot, o, f, hA⟩ := hP
  exact ⟨ri, rl, sp, pos, ot, o, f, hA.more hn⟩
