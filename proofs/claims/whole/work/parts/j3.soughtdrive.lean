/-! THE STATES OF A PART OF A SPEC: drive behind seekGoal and seekWay -/
section SoughtDrive
variable {H H0 : mu_H} {U U0 V V' V0 V3 X K0 : Ud} {m d P R wd nk N a i0 into n sc jl jr sj qs i N0 fb NN us nf nw nb : Nat} {C : Nat → Nat} {Y : Ts} {f od bs lv lc wa wn wi cl ro z mb me : Nat → Nat} {es rs nm tm : Nat → Int32} {wk p : Nat → Bool} {S FS : Nat → Nat → Bool} {bo oid : Nat → Nat → Nat} {Gr G : Nat → Nat → Prop} {al E Fr : Nat → Prop} {js : Nat → Option Nat} {F : Uf} {L4 L8 : Nat → Int64} {Q : Nat → Nat → Nat → Prop} {Φ : mu_R → Prop}
variable {W : Ud} {T L k q sp ns c : Nat} {D : Nat → Nat → Prop} {KW : Ud} {sa sN si : Nat → Nat} {PV : mu_H → Prop} {cst : Nat → Nat}
theorem sek_uq0 {x0 x1 x2 x3 : Int32} : uq Fek U (sekU U x0 x1 x2 x3) := by
  have h0 : uq Fek U (upT U (ac 26 U.1 0)) := ⟨fun j hj => if_neg (in1_ne (j := 26) rfl hj), fun _ _ _ => rfl, fun _ _ _ => rfl, fun _ _ _ => ⟨rfl, rfl⟩, fun _ _ => rfl, fun _ => rfl⟩
  unfold sekU
  exact (((((((h0.I rfl).I rfl).I rfl).I rfl).I rfl).I rfl).I rfl).I rfl
/-- drive behind seek: the STATES of a part are in the set -/
theorem pv_driveQ (hRN : R = NN - fb) (hmem : ∀ r, ¬ r = 0 → r < R → ∃ s, s < pd f 0 P ∧ ro s = r) (hST : ∀ r x, S (fb + r) x = true → x < pd f 0 P) (hG : ∀ s t, s < pd f 0 P → (G s t ↔ S (fb + ro s) t = true)) (hGE : ∀ s t, G s t → E t) (hTw : pd f 0 P ≤ 64 * wd) (hE : ∀ s, s < 64 * wd → (bts L4 s = true ↔ E s)) (hET : ∀ s, E s → s < pd f 0 P) (hF : ∀ s, s < pd f 0 P → (bts L8 s = true ↔ Fr s)) (hC21 : 2 * (((Y 13).1 + 2) * 4) + 4 ≤ C 21) (hC21b : C 21 ≤ 8388608) (hC : SKC Y es rs a N i0 into) (hle : ∀ n, n < N → plen (oc Y (a + n)) (oa Y (a + n)) = 0 → ¬ rs n = 9) (hroot : stk Y rs a N 0 = 1 ∨ stk Y rs a N 0 = 9) (hcst : ∀ n, n < N → cst (n + 1) + wgt R (oc Y (a + n)) ≤ cst n) (hc0 : cst 0 + 24 ≤ 1073741824) (hC26 : 4 * (N + 2) + 2 ≤ C 26) (hC26b : C 26 ≤ 8388608) (h : um m H) (hU : (SKW U m (RDK m od Y es P f fb Gr NN us S z p nf nm tm bs lv lc oid nw wa wn wi wk nb bo cl al ro) (pd f 0 P) R wd ro mb me nk FS L4 L8 Y ∧ U.2.1 158 14 = 0 ∧ KPT U (pd f 0 P) wd ns E (SPD Y G E Fr nk (fun f t => FS f t = true) KW f P od sa sN si) ∧ U.1 15 = KW.1 15 ∧ U.2.2.1 99 8 = KW.2.2.1 99 8)) (e : ud m H = sekU U (nI a) (nI (a + N)) (nI i0) (nI into)) : mu_TV (mu_D (d + 21)) 376 [.inr (.inr (some 0))] H (fun H1 => um m H1 ∧ ur m C H H1 ∧ (SKW (ud m H1) m (RDK m od Y es P f fb Gr NN us S z p nf nm tm bs lv lc oid nw wa wn wi wk nb bo cl al ro) (pd f 0 P) R wd ro mb me nk FS L4 L8 Y ∧ (ud m H1).2.1 158 14 = 0 ∧ KPT (ud m H1) (pd f 0 P) wd ns E (SPD Y G E Fr nk (fun f t => FS f t = true) KW f P od sa sN si) ∧ (ud m H1).1 15 = KW.1 15 ∧ (ud m H1).2.2.1 99 8 = KW.2.2.1 99 8) ∧ (∃ q, LSN (ud m H1) 161 into q 256 ∧ ∀ s, s < 64 * wd → (bts (lgf (ud m H1) 161 into) s = true ↔ E s ∧ CTS Y G E Fr nk (fun f t => FS f t = true) (lvq Y KW f P od i0) a N 0 s)) ∧ (∀ c, c < into → (ud m H1).2.2.2.2.2 161 c = U.2.2.2.2.2 161 c) ∧ KPW U (ud m H1) ∧ (ud m H1).2.2.1 158 7 = U.2.2.1 158 7) := by
  obtain ⟨hw, h14, hK, x15, x98⟩ := hU
  have hq0 : uq Fek U (ud m H) := by rw [e]; exact sek_uq0
  have hw0 := sek_skw (into := into) hw hq0
  have ep0 := hq0.2.2.2.2.2 rfl
  have hK0 : KPT (ud m H) (pd f 0 P) wd ns E (SPD Y G E Fr nk (fun f t => FS f t = true) KW f P od sa sN si) := hK.same (by rw [hq0.a 158 7 rfl]) (fun c => hq0.r 163 c rfl) (by rw [ep0])
  have hW0 : KPW U (ud m H) := KPW.of_uq hq0 rfl (by rw [ep0])
  have hQd : CTS Y G E Fr nk (fun f t => FS f t = true) (lvq Y KW f P od i0) a = CTS Y G E Fr nk (fun f t => FS f t = true) (lvq Y (ud m H) f P od i0) a := by
    rw [show lvq Y KW f P od i0 = lvq Y (ud m H) f P od i0 from funext fun s => lvq_eq (x15.symm.trans (hq0.t 15 rfl).symm) (x98.symm.trans (hq0.a 99 8 rfl).symm)]
  refine pv_driveW (fun Φ hΦ => ?_)
  refine dr_seekall (d := d) (C := C) (H0 := H) (K0 := ud m H) (a := a) (N := N) (i0 := i0) (into := into) (L := 1073741824) (cst := cst) (PE := fun H1 => (SKW (ud m H1) m (RDK m od Y es P f fb Gr NN us S z p nf nm tm bs lv lc oid nw wa wn wi wk nb bo cl al ro) (pd f 0 P) R wd ro mb me nk FS L4 L8 Y ∧ (ud m H1).2.1 158 14 = 0 ∧ KPT (ud m H1) (pd f 0 P) wd ns E (SPD Y G E Fr nk (fun f t => FS f t = true) KW f P od sa sN si) ∧ (ud m H1).1 15 = KW.1 15 ∧ (ud m H1).2.2.1 99 8 = KW.2.2.1 99 8) ∧ (∃ q, LSN (ud m H1) 161 into q 256 ∧ ∀ s, s < 64 * wd → (bts (lgf (ud m H1) 161 into) s = true ↔ E s ∧ CTS Y G E Fr nk (fun f t => FS f t = true) (lvq Y KW f P od i0) a N 0 s)) ∧ (∀ c, c < into → (ud m H1).2.2.2.2.2 161 c = U.2.2.2.2.2 161 c) ∧ KPW U (ud m H1) ∧ (ud m H1).2.2.1 158 7 = U.2.2.1 158 7) hRN hmem hST hG hGE hC hTw hE hET hF hC21 hC21b hC26 hC26b hQd hle hroot hcst (Nat.le_refl _) (fun Hx ux rx hwx e16 e17 e19 hset Ψ hΨ => ?_) (fun i' H1 hi u1 r1 y => ?_) (8 * N + 4) 0 H ⟨h, ur.refl m C H, Or.inl ⟨0, fun _ => none, into, ?_, hw0, ?_, ?_⟩⟩
  · have x15' : (ud m Hx).2.1 158 15 = -1 := (hwx.1.2.1.2.1 158 15 rfl).trans (by rw [e]; rfl)
    refine sk_tE (d := d + 11) (C := C) ux rfl hC hwx wrl_rxk e16 e17 e19 x15' hset hTw hE hET (fun H1 u1 r1 y => hΨ H1 u1 (rx.trans r1) ?_)
    obtain ⟨hw2, t2, q, l, hs2⟩ := y
    have hk2 : KEP (ud m H) (ud m H1) := hw2.1.2.1
    have hW4 : KPW U (ud m H1) := hW0.trans hk2.kpw
    exact ⟨⟨⟨hw2.1.1, hw2.2⟩, t2, hk2.kpt hK0, (hW4.1 15 rfl).trans x15, (hW4.2.2.1 99 8 rfl).trans x98⟩, ⟨q, l, hs2⟩, fun c hc => (hw2.1.2.2 c hc).trans (by rw [ep0]), hW4, (hk2.2.2.1 158 7 rfl).trans (hq0.a 158 7 rfl)⟩
  · obtain ⟨⟨v1, v2, v3⟩, v4⟩ := y
    refine dr_idle (C := C) u1 (by omega) v1.2.2.2.2.1.2 v1.2.2.2.2.1.1 v2 (fun H2 u2 r2 d2 => hΦ H2 ⟨u2, r1.trans r2, ?_⟩)
    rw [d2]
    exact ⟨⟨v1, v2, v3⟩, v4⟩
  · refine SKS.fresh (Nat.zero_le _) hC ⟨?_, ?_, fun k hk => absurd hk (Nat.not_lt_zero _)⟩ ⟨rfl, fun k j hk => absurd hk (Nat.not_lt_zero _), fun k j hk => absurd hk (Nat.not_lt_zero _), fun k j _ hk => absurd hk (Nat.not_lt_zero _), fun k k' j hk => absurd hk (Nat.not_lt_zero _)⟩ (fun k hk => absurd hk (Nat.not_lt_zero _)) (fun k j hk => absurd hk (Nat.not_lt_zero _))
    · rw [e]
      exact ⟨rfl, rfl, rfl, rfl, rfl, rfl, rfl⟩
    · rw [e]
      rfl
  · have := cns_le (Y := Y) (a := a) (N := N) (n := 0) (js := fun _ => none)
    omega
  · have := cns_le (Y := Y) (a := a) (N := N) (n := 0) (js := fun _ => none)
    omega
end SoughtDrive
