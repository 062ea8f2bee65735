theorem cev_ok : ∀ (f d mi : Nat) (cf : cS) (out : List cE × Nat × Nat), cev f d mi cf = some out → cOK mi → ∀ (MC MS : Nat), out.2.1 ≤ MC → out.2.2 ≤ MS → cG mi d MC MS cf out := by
  intro f
  induction f with
  | zero => intro d mi cf out h; cases h
  | succ f ih =>
    intro d mi cf out h hm MC MS hMC hMS p l e s m args below meth c D cA n0 C hr hlk
    obtain ⟨pc, lv, st, hl, nc, ns⟩ := cf
    unfold cev at h
    dsimp only at h
    split at h
    · cases h
    · rename_i E hE
      obtain ⟨hk1, hk2⟩ := hm.1 pc E hE
      split at h
      · split at h
        · rename_i cf' h1
          have h3 := cev_mono f d mi cf' out h
          exact cstep_ok C hk1 hk2 h1 ⟨Nat.le_trans h3.1 hMC, Nat.le_trans h3.2 hMS⟩ (ih d mi cf' out h hm MC MS hMC hMS p l e s m args below meth c D cA n0 C hr hlk)
        · cases h
      · rename_i hkd
        split at h
        · cases h
          intro H locs ls hWd hS hlen hl0
          obtain ⟨hx, hb, hml, hown, hts, hK, hini, hRf, hRl⟩ := C
          have hdg : decode (zmB mi) pc = .ok (.return_, 1) := by
            unfold zchk at hk1
            rw [Bool.and_eq_true, decide_eq_true_eq] at hk1
            obtain ⟨ins, ln, x, y, w, z⟩ := E
            cases ins with
            | return_ => exact hk1.1
            | invokespecial i =>
              unfold ckind at hkd
              dsimp only at hkd
              cases hy : Nat.beq y 20 <;> rw [hy] at hkd <;> cases hkd
            | _ => cases hkd
          exact W.vret hx hb hr (fun t ht hW => ⟨rfl, by rw [ht]; exact hWd, hS.F ht⟩) hS.2.2 hdg hlk
        · cases h
      · rename_i hk0 hk9
        split at h
        · cases h
        · rename_i d'
          split at h
          · cases h
          · rename_i as j rest htk
            split at h
            · cases h
            · rename_i hgo
              split at h
              · cases h
              · rename_i hl' mc ms hcall
                have hmono := cev_mono f (d' + 1) mi _ out h
                dsimp only at hmono
                rw [Bool.and_eq_true] at hgo
                obtain ⟨hgo, hck⟩ := hgo
                unfold cgo at hgo
                simp only [Bool.and_eq_true] at hgo
                obtain ⟨⟨⟨g1, g2⟩, g3⟩, g4⟩ := hgo
                have g2 := Nat.eq_of_beq_eq_true g2
                have g3 := zNat_ble g3
                have g4 := zNat_ble g4
                have hmx := cok_all _ g1
                have hMM := cMet_of (as := zr 0 j :: as) hmx g4 (ih d' _ _ _ hcall hmx mc ms (Nat.le_refl _) (Nat.le_refl _))
                have hnext := ih (d' + 1) mi _ out h hm MC MS hMC hMS p l e s m args below meth c D cA n0 C hr hlk
                obtain ⟨htab, hcode, hI, hini2, hd, hpl, hmL, hnm, hret⟩ := hmx
                obtain ⟨hx, hb, hml, hown, hts, hK, hini, hRf, hRl⟩ := C
                have hst := ctake_ok htk
                subst hst
                intro H locs ls hWd hS hlen hl0
                dsimp only at hWd hlen hl0 ⊢
                have hst : (as.reverse ++ zr 0 j :: rest).map (zc (cad n0)) = (as.map (zc (cad n0))).reverse ++ .ref (n0 + j) :: rest.map (zc (cad n0)) := by
                  rw [List.map_append, List.map_reverse, List.map_cons, crf]
                rw [hst]
                have hargs : (zr 0 j :: as).map (zc (cad n0)) = .ref (n0 + j) :: as.map (zc (cad n0)) := by rw [List.map_cons, crf]
                have hpc : ∀ U : State, U.heap = H → s.WarmedH U.vm → cPc D cA n0 (zr 0 j :: as) hl (Value.ref (n0 + j) :: as.map (zc (cad n0))).toArray U := by
                  rw [← hargs]; exact cPc_ok hWd hK
                have hro : (crm d' mc ms).frames + 1 ≤ (crm (d' + 1) MC MS).frames ∧ 8 + (zmL E.2.2.1 + 11) + (crm d' mc ms).locals ≤ (crm (d' + 1) MC MS).locals := ⟨by show d' + 1 + 1 ≤ _; exact Nat.le_refl _, by show 8 + (zmL E.2.2.1 + 11) + 60 * (d' + 1) ≤ 60 * (d' + 1 + 1); omega⟩
                have hfit : nc + mc ≤ (crm (d' + 1) MC MS).cells ∧ ns + ms ≤ (crm (d' + 1) MC MS).slots := ⟨by show _ ≤ MC; omega, by show _ ≤ MS; omega⟩
                have hkk : ∀ (H1 : Heap) (locs1 : List Loc), cWd D n0 cA hl' H1 → va_S (fun q => n0 ≤ q) s.heap H1 locs1 → W p l e (crm (d' + 1) MC MS) s m args below meth c H1 locs1 (nc + mc) (ns + ms) (MQ below (cQc D cA n0 out.1) args s out.2.1 out.2.2 (fun q => n0 ≤ q)) (F0 m (pc + 3) ls (rest.map (zc (cad n0)))) := fun H1 locs1 a1 a2 => hnext H1 locs1 ls a1 a2 hlen hl0
                have hdg : decode (zmB mi) pc = .ok (E.1, zil E.2.1 E.1) := by
                  unfold zchk at hk1
                  rw [Bool.and_eq_true, decide_eq_true_eq] at hk1
                  exact hk1.1
                have hroom : 2 * (F0 m pc ls ((as.map (zc (cad n0))).reverse ++ .ref (n0 + j) :: rest.map (zc (cad n0)))).monitorRoom + ((rest.map (zc (cad n0))).map fun v => v.category).sum ≤ 8 := by
                  rw [zcats_eq]; show 2 * 0 + _ ≤ 8; omega
                obtain ⟨ins, ln, x, y, w, z⟩ := E
                dsimp only at *
                cases ins with
                | invokespecial idx =>
                  have hy20 : Nat.beq y 20 = false := by
                    cases hy : Nat.beq y 20 with
                    | false => rfl
                    | true =>
                      exfalso
                      apply hk0
                      unfold ckind
                      dsimp only
                      rw [hy]
                      rfl
                  have hxi : cini x = true := by
                    have e2 : ckind (Instr.invokespecial idx, ln, x, y, w, z) = 2 := by
                      unfold ckind
                      dsimp only
                      rw [hy20]
                      rfl
                    rw [e2] at hck
                    exact hck
                  unfold cchk at hk2
                  dsimp only at hk2
                  split at hk2
                  · cases hy20
                  · have hl1 := hts _ (zwat_in (of_decide_eq_true hk2) rfl)
                    exact crun (va_runI (As := as.map (zc (cad n0))) (rest := rest.map (zc (cad n0))) ⟨hx, hb, hml, hown, hts⟩ (hMM l D cA n0) ⟨callB_of (zmA x) hts (zgood (zws_in hcode)) (by rw [← hret]; rfl) rfl rfl (hts _ hini2) hl1 hd hro, hnm hxi, hts _ hI⟩ ⟨cblind, hpc⟩ rfl (by rw [List.length_map]; exact g2) hl0.1 rfl hroom hdg hfit) hS hkk
                  · rw [Bool.and_eq_true, decide_eq_true_eq, decide_eq_true_eq] at hk2
                    have hl1 := hK.2.1 _ (List.mem_filterMap.mpr ⟨w, hk2.2, hk2.1⟩)
                    exact crun (va_runIN (As := as.map (zc (cad n0))) (rest := rest.map (zc (cad n0))) ⟨hx, hb, hml, hown, hts⟩ (hMM l D cA n0) ⟨va_cnB (zmA x) hts (zgood (zws_in hcode)) (by rw [← hret]; rfl) rfl rfl hl1 (hts _ hini2) hd hro, hnm hxi, hts _ hI⟩ ⟨cblind, hpc⟩ rfl (by rw [List.length_map]; exact g2) hl0.1 rfl hroom hdg hfit) hS hkk
                | invokevirtual idx =>
                  have e2 : ckind (Instr.invokevirtual idx, ln, x, y, w, z) = 3 := rfl
                  rw [e2] at hck
                  have hck : (Nat.beq x 59 && (match hl[j]? with
                    | some (.inl (ci, _)) => Nat.beq ci 8
                    | _ => false)) = true := hck
                  rw [Bool.and_eq_true] at hck
                  obtain ⟨hx59, hcell⟩ := hck
                  have hx59 := Nat.eq_of_beq_eq_true hx59
                  subst hx59
                  split at hcell
                  · rename_i ci fs hj
                    have h8 := Nat.eq_of_beq_eq_true hcell
                    subst h8
                    obtain ⟨hI1, hI2, hI3⟩ := zmok_59.2.2.1 rfl
                    obtain ⟨TT, NN, hcl⟩ := hI3 (by decide)
                    have he := clay_get (n0 := n0) (cA := cA) hj
                    have hrv := va_recv hK.1 hWd.1 (show vwCl[8]? = _ from hcl) he
                    unfold cchk at hk2
                    dsimp only at hk2
                    split at hk2
                    · have hl1 := hts _ (zwat_in (of_decide_eq_true hk2) rfl)
                      exact crun (va_runV (As := as.map (zc (cad n0))) (rest := rest.map (zc (cad n0))) ⟨hx, hb, hml, hown, hts⟩ (hMM l D cA n0) ⟨callB_of (zmA 59) hts (zgood (zws_in hcode)) rfl rfl rfl (hts _ hini2) hl1 hd hro, hts _ hI1, hts _ hI2⟩ ⟨cblind, hrv, hpc⟩ rfl (by rw [List.length_map]; exact g2) hl0.1 rfl hroom hdg hfit) hS hkk
                    · cases hk2
                  · cases hcell
                | return_ => exact absurd rfl hk9
                | _ => exact absurd rfl hk0
