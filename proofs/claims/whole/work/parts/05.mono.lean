theorem br.mono {c A B A' B' : Prop} (hA : A → A') (hB : B → B') (h : br c A B) : br c A' B' := ⟨fun x => hA (h.1 x), fun x => hB (h.2 x)⟩
theorem xI1.mono {st : List AV} {f g : Int → List AV → Prop} (hf : ∀ x r, f x r → g x r) (h : xI1 st f) : xI1 st g := by
  unfold xI1 at h ⊢; split at h
  · exact hf _ _ h
  · exact h.elim
theorem xI2.mono {st : List AV} {f g : Int → Int → List AV → Prop} (hf : ∀ x y r, f x y r → g x y r) (h : xI2 st f) : xI2 st g := by
  unfold xI2 at h ⊢; split at h
  · exact hf _ _ _ h
  · exact h.elim
theorem xL1.mono {st : List AV} {f g : Int → List AV → Prop} (hf : ∀ x r, f x r → g x r) (h : xL1 st f) : xL1 st g := by
  unfold xL1 at h ⊢; split at h
  · exact hf _ _ h
  · exact h.elim
theorem xL2.mono {st : List AV} {f g : Int → Int → List AV → Prop} (hf : ∀ x y r, f x y r → g x y r) (h : xL2 st f) : xL2 st g := by
  unfold xL2 at h ⊢; split at h
  · exact hf _ _ _ h
  · exact h.elim
theorem xLI.mono {st : List AV} {f g : Int → Int → List AV → Prop} (hf : ∀ x y r, f x y r → g x y r) (h : xLI st f) : xLI st g := by
  unfold xLI at h ⊢; split at h
  · exact hf _ _ _ h
  · exact h.elim
theorem xA1.mono {st : List AV} {f g : Nat → List AV → Prop} (hf : ∀ x r, f x r → g x r) (h : xA1 st f) : xA1 st g := by
  unfold xA1 at h ⊢; split at h
  · exact hf _ _ h
  · exact h.elim
theorem xAI.mono {st : List AV} {f g : Nat → Int → List AV → Prop} (hf : ∀ x y r, f x y r → g x y r) (h : xAI st f) : xAI st g := by
  unfold xAI at h ⊢; split at h
  · exact hf _ _ _ h
  · exact h.elim
theorem ldI.mono {v : AV} {f g : AV → Prop} (hf : ∀ x, f x → g x) (h : ldI v f) : ldI v g := by
  unfold ldI at h ⊢; split at h
  · exact hf _ h
  · exact h.elim
theorem ldL.mono {v : AV} {f g : AV → Prop} (hf : ∀ x, f x → g x) (h : ldL v f) : ldL v g := by
  unfold ldL at h ⊢; split at h
  · exact hf _ h
  · exact h.elim
theorem ldA.mono {v : AV} {f g : AV → Prop} (hf : ∀ x, f x → g x) (h : ldA v f) : ldA v g := by
  unfold ldA at h ⊢; split at h
  · exact hf _ h
  · exact h.elim
theorem sw.mono {x : Int} {f g : Nat → Prop} {d : Nat} (hf : ∀ t, f t → g t) : ∀ {l : List (Int × Nat)}, sw x f d l → sw x g d l
  | [], h => hf _ h
  | (k, t) :: r, h => br.mono (hf t) (sw.mono hf) h
theorem cndE.mono {x y : Int} {c : Jvm.ClassFile.Cond} {A B A' B' : Prop} (hA : A → A') (hB : B → B') (h : cndE x y c A B) : cndE x y c A' B' := by
  cases c <;> exact br.mono hA hB h
theorem fgo.mono {h : Hp} {o ci : Nat} {k : Int} {f g : AV → Prop} (hf : ∀ v, f v → g v) (hh : fgo h o ci k f) : fgo h o ci k g := by
  unfold fgo at hh ⊢
  split at hh
  · exact hh.elim
  · split at hh
    · exact hf _ hh
    · exact hf _ hh
    · exact hf _ hh
    · split at hh
      · exact hf _ hh
      · exact hh.elim
    · exact hh.elim
theorem pgo.mono {h : Hp} {o ci : Nat} {k : Int} {v : AV} {f g : Hp → Prop} (hf : ∀ v, f v → g v) (hh : pgo h o ci k v f) : pgo h o ci k v g := by
  unfold pgo at hh ⊢
  split at hh
  · exact hh.elim
  · split at hh
    · exact hf _ hh
    · exact ⟨hh.1, hf _ hh.2⟩
    · exact hf _ hh
    · exact hh.elim
theorem ago.mono {o t : Nat} {i : Int} {f g : Prop} (hf : f → g) (hh : ago o t i f) : ago o t i g := by
  unfold ago at hh ⊢
  split at hh
  · exact hh.elim
  · exact ⟨hh.1, hf hh.2⟩
theorem bgo.mono {o : Nat} {i : Int} {f g : Prop} (hf : f → g) (hh : bgo o i f) : bgo o i g := by
  unfold bgo at hh ⊢
  split at hh
  · exact ⟨hh.1, hf hh.2⟩
  · exact ⟨hh.1, hf hh.2⟩
  · exact hh.elim
theorem bsto.mono {o : Nat} {i x : Int} {f g : Prop} (hf : f → g) (hh : bsto o i x f) : bsto o i x g := by
  unfold bsto at hh ⊢
  split at hh
  · exact ⟨hh.1, hf hh.2⟩
  · exact ⟨hh.1, hf hh.2⟩
  · exact hh.elim
theorem rgo.mono {o : Nat} {i : Int} {f g : AV → Prop} (hf : ∀ v, f v → g v) (hh : rgo o i f) : rgo o i g := by
  unfold rgo at hh ⊢
  split at hh
  · exact hh.elim
  · refine ⟨hh.1, ?_⟩
    have h2 := hh.2
    split at h2
    · exact hf _ h2
    · exact h2.elim
theorem lgo.mono {o : Nat} {f g : Int → Prop} (hf : ∀ v, f v → g v) (hh : lgo o f) : lgo o g := by
  unfold lgo at hh ⊢
  split at hh
  · exact hh.elim
  · exact hf _ hh
theorem and.mono {A B C : Prop} (hf : B → C) (h : A ∧ B) : A ∧ C := ⟨h.1, hf h.2⟩
theorem copyM.mono {go go' : aGO} {nxt : Nat} {ls st : List AV} {h : Hp} (hf : ∀ a b c d, go a b c d → go' a b c d) (hh : copyM go nxt ls st h) : copyM go' nxt ls st h := by
  unfold copyM at hh ⊢
  split at hh
  · split at hh
    · exact hh.elim
    · exact ⟨hh.1, hf _ _ _ _ hh.2⟩
  · exact hh.elim
theorem lenM.mono {go go' : aGO} {nxt : Nat} {ls st : List AV} {h : Hp} (hf : ∀ a b c d, go a b c d → go' a b c d) (hh : lenM go nxt ls st h) : lenM go' nxt ls st h := by
  unfold lenM at hh ⊢
  split at hh
  · split at hh
    · exact hh.elim
    · exact hf _ _ _ _ hh
  · exact hh.elim
theorem chrM.mono {go go' : aGO} {nxt : Nat} {ls st : List AV} {h : Hp} (hf : ∀ a b c d, go a b c d → go' a b c d) (hh : chrM go nxt ls st h) : chrM go' nxt ls st h := by
  unfold chrM at hh ⊢
  split at hh
  · split at hh
    · exact hh.elim
    · exact ⟨hh.1, hf _ _ _ _ hh.2⟩
  · exact hh.elim
theorem invM.mono {PC PC' : aCA} {go go' : aGO} {a nxt : Nat} {ls st : List AV} {h : Hp} (hf : ∀ a b c d, go a b c d → go' a b c d) (hP : ∀ a ls h Q1 Q2, (∀ r h2, Q1 r h2 → Q2 r h2) → PC a ls h Q1 → PC' a ls h Q2) (hh : invM PC go a nxt ls st h) : invM PC' go' a nxt ls st h := by
  unfold invM at hh ⊢
  split at hh
  · exact hh.elim
  · exact hP _ _ _ _ _ (fun _ _ q => hf _ _ _ _ q) hh
theorem invS.mono {PC PC' : aCA} {go go' : aGO} {a nxt : Nat} {ls st : List AV} {h : Hp} (hf : ∀ a b c d, go a b c d → go' a b c d) (hP : ∀ a ls h Q1 Q2, (∀ r h2, Q1 r h2 → Q2 r h2) → PC a ls h Q1 → PC' a ls h Q2) (hh : invS PC go a nxt ls st h) : invS PC' go' a nxt ls st h := by
  unfold invS at hh ⊢
  split at hh
  · exact invM.mono hf hP hh
  · split at hh
    · exact copyM.mono hf hh
    · refine xI2.mono (fun _ _ _ q => ?_) hh
      split at q
      · exact q
      · exact hf _ _ _ _ q
    · refine xI2.mono (fun _ _ _ q => ?_) hh
      split at q
      · exact q
      · exact hf _ _ _ _ q
    · refine xI1.mono (fun _ _ q => ?_) hh
      split at q
      · exact q
      · exact ⟨q.1, hf _ _ _ _ q.2⟩
    · exact hh
theorem invV.mono {PC PC' : aCA} {go go' : aGO} {a nxt : Nat} {ls st : List AV} {h : Hp} (hf : ∀ a b c d, go a b c d → go' a b c d) (hP : ∀ a ls h Q1 Q2, (∀ r h2, Q1 r h2 → Q2 r h2) → PC a ls h Q1 → PC' a ls h Q2) (hh : invV PC go a nxt ls st h) : invV PC' go' a nxt ls st h := by
  unfold invV at hh ⊢
  split at hh
  · exact lenM.mono hf hh
  · split at hh
    · exact chrM.mono hf hh
    · split at hh
      · exact hh.elim
      · exact invM.mono hf hP hh
set_option maxHeartbeats 4000000 in
theorem semI.mono {PC PC' : aCA} {go go' : aGO} {ins : Instr} {nxt a : Nat} {b : Int} {m : Nat} {ls st : List AV} {h : Hp} {Q Q' : aPO} (hf : ∀ a b c d, go a b c d → go' a b c d) (hP : ∀ a ls h Q1 Q2, (∀ r h2, Q1 r h2 → Q2 r h2) → PC a ls h Q1 → PC' a ls h Q2) (hQ : ∀ r h2, Q r h2 → Q' r h2)
    (hs : semI PC go ins nxt a b m ls st h Q) : semI PC' go' ins nxt a b m ls st h Q' := by
  cases ins <;> dsimp only [semI] at hs ⊢ <;> first
    | exact hs.elim
    | exact hf _ _ _ _ hs
    | exact ldI.mono (fun _ q => hf _ _ _ _ q) hs
    | exact ldL.mono (fun _ q => hf _ _ _ _ q) hs
    | exact ldA.mono (fun _ q => hf _ _ _ _ q) hs
    | exact xI1.mono (fun _ _ q => hf _ _ _ _ q) hs
    | exact xL1.mono (fun _ _ q => hf _ _ _ _ q) hs
    | exact xA1.mono (fun _ _ q => hf _ _ _ _ q) hs
    | exact xI2.mono (fun _ _ _ q => ⟨q.1, hf _ _ _ _ q.2⟩) hs
    | exact xI2.mono (fun _ _ _ q => hf _ _ _ _ q) hs
    | exact xL2.mono (fun _ _ _ q => ⟨q.1, hf _ _ _ _ q.2⟩) hs
    | exact xL2.mono (fun _ _ _ q => hf _ _ _ _ q) hs
    | exact xLI.mono (fun _ _ _ q => hf _ _ _ _ q) hs
    | exact xI1.mono (fun _ _ q => ⟨q.1, hf _ _ _ _ q.2⟩) hs
    | exact xL1.mono (fun _ _ q => ⟨q.1, hf _ _ _ _ q.2⟩) hs
    | exact xI1.mono (fun _ _ q => cndE.mono (hf _ _ _ _) (hf _ _ _ _) q) hs
    | exact xI2.mono (fun _ _ _ q => cndE.mono (hf _ _ _ _) (hf _ _ _ _) q) hs
    | exact xI1.mono (fun _ _ q => sw.mono (fun _ => hf _ _ _ _) q) hs
    | exact xA1.mono (fun _ _ q => fgo.mono (fun _ => hf _ _ _ _) q) hs
    | exact xA1.mono (fun _ _ q => lgo.mono (fun _ => hf _ _ _ _) q) hs
    | exact xAI.mono (fun _ _ _ q => ago.mono (hf _ _ _ _) q) hs
    | exact xAI.mono (fun _ _ _ q => bgo.mono (hf _ _ _ _) q) hs
    | exact xAI.mono (fun _ _ _ q => rgo.mono (fun _ => hf _ _ _ _) q) hs
    | exact xI1.mono (fun _ _ q => xAI.mono (fun _ _ _ q => ago.mono (hf _ _ _ _) q) q) hs
    | exact xL1.mono (fun _ _ q => xAI.mono (fun _ _ _ q => ago.mono (hf _ _ _ _) q) q) hs
    | exact xI1.mono (fun _ _ q => xAI.mono (fun _ _ _ q => bsto.mono (hf _ _ _ _) q) q) hs
    | exact invS.mono hf hP hs
    | exact invV.mono hf hP hs
    | (split at hs <;> first | exact hf _ _ _ _ hs | exact ⟨hs.1, hf _ _ _ _ hs.2⟩ | exact pgo.mono (fun _ => hf _ _ _ _) hs | exact hs.elim | (split at hs <;> first | exact hQ _ _ hs | exact ⟨hs.1, hQ _ _ hs.2⟩ | exact hs.elim))
theorem semM.mono {PC PC' : aCA} {go go' : aGO} {m pc : Nat} {ls st : List AV} {h : Hp} {Q Q' : aPO} (hf : ∀ a b c d, go a b c d → go' a b c d) (hP : ∀ a ls h Q1 Q2, (∀ r h2, Q1 r h2 → Q2 r h2) → PC a ls h Q1 → PC' a ls h Q2) (hQ : ∀ r h2, Q r h2 → Q' r h2)
    (hs : semM PC go m pc ls st h Q) : semM PC' go' m pc ls st h Q' := by
  unfold semM at hs ⊢
  split at hs
  · exact semI.mono hf hP hQ hs
  · exact hs.elim
theorem Runs.mono {d m pc : Nat} {ls st : List AV} {h : Hp} {Q Q' : aPO} (hQ : ∀ r h2, Q r h2 → Q' r h2) (hr : Runs d m pc ls st h Q) : Runs d m pc ls st h Q' :=
  fun X hX => hX.1 _ _ _ _ _ _ _ _ hQ (hr X hX)
theorem inCall.mono {X Y : aRL} {d : Nat} (hY : ∀ d m pc ls st h Q Q', (∀ r h2, Q r h2 → Q' r h2) → Y d m pc ls st h Q → Y d m pc ls st h Q') (hXY : ∀ d m pc ls st h Q, X d m pc ls st h Q → Y d m pc ls st h Q) : ∀ a ls h Q1 Q2, (∀ r h2, Q1 r h2 → Q2 r h2) → inCall X d a ls h Q1 → inCall Y d a ls h Q2 := by
  intro a ls h Q1 Q2 hQ hs
  cases d with
  | zero => exact hs
  | succ e => exact hY _ _ _ _ _ _ _ _ hQ (hXY _ _ _ _ _ _ _ hs)
theorem Runs.step {d m pc : Nat} {ls st : List AV} {h : Hp} {Q : aPO} (hs : semM (inCall Runs d) (fun pc ls st h => Runs d m pc ls st h Q) m pc ls st h Q) : Runs d m pc ls st h Q := by
  intro X hX
  refine hX.2 _ _ _ _ _ _ _ (semM.mono (fun a b c d q => q X hX) (inCall.mono hX.1 (fun _ _ _ _ _ _ _ q => q X hX)) (fun _ _ q => q) hs)
/-- n steps at once, up to the places of cuts -/
def wps (cuts : List Nat) (d m : Nat) (Q : aPO) : Nat → aGO
  | 0 => fun pc ls st h => Runs d m pc ls st h Q
  | n + 1 => fun pc ls st h => semM (inCall Runs d) (fun pc2 ls2 st2 h2 => bif cuts.any (Nat.beq pc2) then Runs d m pc2 ls2 st2 h2 Q else wps cuts d m Q n pc2 ls2 st2 h2) m pc ls st h Q
theorem Runs.go (n : Nat) (cuts : List Nat) {d m pc : Nat} {ls st : List AV} {h : Hp} {Q : aPO} (hs : wps cuts d m Q n pc ls st h) : Runs d m pc ls st h Q := by
  induction n generalizing pc ls st h with
  | zero => exact hs
  | succ n ih =>
    refine Runs.step (semM.mono (fun a b c e q => ?_) (inCall.mono (fun _ _ _ _ _ _ _ _ => Runs.mono) (fun _ _ _ _ _ _ _ q => q)) (fun _ _ q => q) hs)
    cases hc : cuts.any (Nat.beq a) with
    | true => rw [hc] at q; exact q
    | false => rw [hc] at q; exact ih q
