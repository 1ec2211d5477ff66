section
/-! All contracts hold, at every depth. -/
theorem qbits : qmeths[170]? = some (qM170.1, qM170.2.1, 3, some .int, 0, 0, qBitsP) := rfl
theorem qCS_wf : ∀ C ∈ qCS, kcwf C = true ∧ lle C.2.1.2.1 C.2.1.2.2.1 (lfneg C.2.2.2.2) = true := by
  have h : qCS.all (fun C => kcwf C && lle C.2.1.2.1 C.2.1.2.2.1 (lfneg C.2.2.2.2)) = true := by decide +kernel
  intro C hC
  exact Bool.and_eq_true_iff.mp (List.all_eq_true.mp h C hC)
theorem qStep0 {X : KO} {d : Nat} (h : ∀ C ∈ qCS, kcwf C = true ∧ CV qEnv qPh (kcl qmeths X d) d C) : ∀ C ∈ qCSp0, CV qEnv qPh (kcl qmeths X (d + 1)) (d + 1) C := List.forall_mem_cons.mpr ⟨kchk_ok qE_ok qE_w qPh_ok h qK0, List.forall_mem_cons.mpr ⟨kchk_ok qE_ok qE_w qPh_ok h qK1, List.forall_mem_cons.mpr ⟨kchk_ok qE_ok qE_w qPh_ok h qK2, List.forall_mem_cons.mpr ⟨kchk_ok qE_ok qE_w qPh_ok h qK3, List.forall_mem_cons.mpr ⟨kchk_ok qE_ok qE_w qPh_ok h qK4, List.forall_mem_cons.mpr ⟨kchk_ok qE_ok qE_w qPh_ok h qK5, List.forall_mem_cons.mpr ⟨kchk_ok qE_ok qE_w qPh_ok h qK6, List.forall_mem_cons.mpr ⟨kchk_ok qE_ok qE_w qPh_ok h qK7, List.forall_mem_cons.mpr ⟨kchk_ok qE_ok qE_w qPh_ok h qK8, List.forall_mem_cons.mpr ⟨kchk_ok qE_ok qE_w qPh_ok h qK9, List.forall_mem_cons.mpr ⟨kchk_ok qE_ok qE_w qPh_ok h qK10, List.forall_mem_cons.mpr ⟨kchk_ok qE_ok qE_w qPh_ok h qK11, List.forall_mem_cons.mpr ⟨kchk_ok qE_ok qE_w qPh_ok h qK12, List.forall_mem_cons.mpr ⟨kchk_ok qE_ok qE_w qPh_ok h qK13, List.forall_mem_cons.mpr ⟨kchk_ok qE_ok qE_w qPh_ok h qK14, List.forall_mem_cons.mpr ⟨kchk_ok qE_ok qE_w qPh_ok h qK15, List.forall_mem_cons.mpr ⟨kchk_ok qE_ok qE_w qPh_ok h qK16, List.forall_mem_cons.mpr ⟨kchk_ok qE_ok qE_w qPh_ok h qK17, List.forall_mem_cons.mpr ⟨kchk_ok qE_ok qE_w qPh_ok h qK18, List.forall_mem_cons.mpr ⟨kchk_ok qE_ok qE_w qPh_ok h qK19, List.forall_mem_cons.mpr ⟨kchk_ok qE_ok qE_w qPh_ok h qK20, List.forall_mem_cons.mpr ⟨kchk_ok qE_ok qE_w qPh_ok h qK21, List.forall_mem_cons.mpr ⟨kchk_ok qE_ok qE_w qPh_ok h qK22, List.forall_mem_cons.mpr ⟨kchk_ok qE_ok qE_w qPh_ok h qK23, List.forall_mem_cons.mpr ⟨kchk_ok qE_ok qE_w qPh_ok h qK24, List.forall_mem_cons.mpr ⟨kchk_ok qE_ok qE_w qPh_ok h qK25, List.forall_mem_cons.mpr ⟨kchk_ok qE_ok qE_w qPh_ok h qK26, List.forall_mem_cons.mpr ⟨kchk_ok qE_ok qE_w qPh_ok h qK27, List.forall_mem_cons.mpr ⟨kchk_ok qE_ok qE_w qPh_ok h qK28, List.forall_mem_cons.mpr ⟨kchk_ok qE_ok qE_w qPh_ok h qK29, List.forall_mem_cons.mpr ⟨kchk_ok qE_ok qE_w qPh_ok h qK30, List.forall_mem_cons.mpr ⟨kchk_ok qE_ok qE_w qPh_ok h qK31, List.forall_mem_cons.mpr ⟨kchk_ok qE_ok qE_w qPh_ok h qK32, List.forall_mem_cons.mpr ⟨kchk_ok qE_ok qE_w qPh_ok h qK33, List.forall_mem_cons.mpr ⟨kchk_ok qE_ok qE_w qPh_ok h qK34, List.forall_mem_cons.mpr ⟨kchk_ok qE_ok qE_w qPh_ok h qK35, List.forall_mem_cons.mpr ⟨kchk_ok qE_ok qE_w qPh_ok h qK36, List.forall_mem_cons.mpr ⟨kchk_ok qE_ok qE_w qPh_ok h qK37, List.forall_mem_cons.mpr ⟨kchk_ok qE_ok qE_w qPh_ok h qK38, List.forall_mem_cons.mpr ⟨kchk_ok qE_ok qE_w qPh_ok h qK39, List.forall_mem_cons.mpr ⟨kchk_ok qE_ok qE_w qPh_ok h qK40, List.forall_mem_cons.mpr ⟨kchk_ok qE_ok qE_w qPh_ok h qK41, List.forall_mem_cons.mpr ⟨kchk_ok qE_ok qE_w qPh_ok h qK42, List.forall_mem_cons.mpr ⟨kchk_ok qE_ok qE_w qPh_ok h qK43, List.forall_mem_cons.mpr ⟨kchk_ok qE_ok qE_w qPh_ok h qK44, List.forall_mem_cons.mpr ⟨kchk_ok qE_ok qE_w qPh_ok h qK45, List.forall_mem_cons.mpr ⟨kchk_ok qE_ok qE_w qPh_ok h qK46, List.forall_mem_cons.mpr ⟨kchk_ok qE_ok qE_w qPh_ok h qK47, List.forall_mem_cons.mpr ⟨kchk_ok qE_ok qE_w qPh_ok h qK48, List.forall_mem_cons.mpr ⟨kchk_ok qE_ok qE_w qPh_ok h qK49, List.forall_mem_nil _⟩⟩⟩⟩⟩⟩⟩⟩⟩⟩⟩⟩⟩⟩⟩⟩⟩⟩⟩⟩⟩⟩⟩⟩⟩⟩⟩⟩⟩⟩⟩⟩⟩⟩⟩⟩⟩⟩⟩⟩⟩⟩⟩⟩⟩⟩⟩⟩⟩⟩
theorem qStep1 {X : KO} {d : Nat} (h : ∀ C ∈ qCS, kcwf C = true ∧ CV qEnv qPh (kcl qmeths X d) d C) : ∀ C ∈ qCSp1, CV qEnv qPh (kcl qmeths X (d + 1)) (d + 1) C := List.forall_mem_cons.mpr ⟨kchk_ok qE_ok qE_w qPh_ok h qK50, List.forall_mem_cons.mpr ⟨kchk_ok qE_ok qE_w qPh_ok h qK51, List.forall_mem_cons.mpr ⟨kchk_ok qE_ok qE_w qPh_ok h qK52, List.forall_mem_cons.mpr ⟨kchk_ok qE_ok qE_w qPh_ok h qK53, List.forall_mem_cons.mpr ⟨kchk_ok qE_ok qE_w qPh_ok h qK54, List.forall_mem_cons.mpr ⟨kchk_ok qE_ok qE_w qPh_ok h qK55, List.forall_mem_cons.mpr ⟨kchk_ok qE_ok qE_w qPh_ok h qK56, List.forall_mem_cons.mpr ⟨kchk_ok qE_ok qE_w qPh_ok h qK57, List.forall_mem_cons.mpr ⟨kchk_ok qE_ok qE_w qPh_ok h qK58, List.forall_mem_cons.mpr ⟨kchk_ok qE_ok qE_w qPh_ok h qK59, List.forall_mem_cons.mpr ⟨kchk_ok qE_ok qE_w qPh_ok h qK60, List.forall_mem_cons.mpr ⟨kchk_ok qE_ok qE_w qPh_ok h qK61, List.forall_mem_cons.mpr ⟨kchk_ok qE_ok qE_w qPh_ok h qK62, List.forall_mem_cons.mpr ⟨kchk_ok qE_ok qE_w qPh_ok h qK63, List.forall_mem_cons.mpr ⟨kchk_ok qE_ok qE_w qPh_ok h qK64, List.forall_mem_cons.mpr ⟨kchk_ok qE_ok qE_w qPh_ok h qK65, List.forall_mem_cons.mpr ⟨kchk_ok qE_ok qE_w qPh_ok h qK66, List.forall_mem_cons.mpr ⟨kchk_ok qE_ok qE_w qPh_ok h qK67, List.forall_mem_cons.mpr ⟨kchk_ok qE_ok qE_w qPh_ok h qK68, List.forall_mem_cons.mpr ⟨kchk_ok qE_ok qE_w qPh_ok h qK69, List.forall_mem_cons.mpr ⟨kchk_ok qE_ok qE_w qPh_ok h qK70, List.forall_mem_cons.mpr ⟨kchk_ok qE_ok qE_w qPh_ok h qK71, List.forall_mem_cons.mpr ⟨kchk_ok qE_ok qE_w qPh_ok h qK72, List.forall_mem_cons.mpr ⟨kchk_ok qE_ok qE_w qPh_ok h qK73, List.forall_mem_cons.mpr ⟨kchk_ok qE_ok qE_w qPh_ok h qK74, List.forall_mem_cons.mpr ⟨kchk_ok qE_ok qE_w qPh_ok h qK75, List.forall_mem_cons.mpr ⟨kchk_ok qE_ok qE_w qPh_ok h qK76, List.forall_mem_cons.mpr ⟨kchk_ok qE_ok qE_w qPh_ok h qK77, List.forall_mem_cons.mpr ⟨kchk_ok qE_ok qE_w qPh_ok h qK78, List.forall_mem_cons.mpr ⟨kchk_ok qE_ok qE_w qPh_ok h qK79, List.forall_mem_cons.mpr ⟨kchk_ok qE_ok qE_w qPh_ok h qK80, List.forall_mem_cons.mpr ⟨kchk_ok qE_ok qE_w qPh_ok h qK81, List.forall_mem_cons.mpr ⟨kchk_ok qE_ok qE_w qPh_ok h qK82, List.forall_mem_cons.mpr ⟨kchk_ok qE_ok qE_w qPh_ok h qK83, List.forall_mem_cons.mpr ⟨kchk_ok qE_ok qE_w qPh_ok h qK84, List.forall_mem_cons.mpr ⟨kchk_ok qE_ok qE_w qPh_ok h qK85, List.forall_mem_cons.mpr ⟨kchk_ok qE_ok qE_w qPh_ok h qK86, List.forall_mem_cons.mpr ⟨kchk_ok qE_ok qE_w qPh_ok h qK87, List.forall_mem_cons.mpr ⟨kchk_ok qE_ok qE_w qPh_ok h qK88, List.forall_mem_cons.mpr ⟨kchk_ok qE_ok qE_w qPh_ok h qK89, List.forall_mem_cons.mpr ⟨kchk_ok qE_ok qE_w qPh_ok h qK90, List.forall_mem_cons.mpr ⟨kchk_ok qE_ok qE_w qPh_ok h qK91, List.forall_mem_cons.mpr ⟨kchk_ok qE_ok qE_w qPh_ok h qK92, List.forall_mem_cons.mpr ⟨kchk_ok qE_ok qE_w qPh_ok h qK93, List.forall_mem_cons.mpr ⟨kchk_ok qE_ok qE_w qPh_ok h qK94, List.forall_mem_cons.mpr ⟨kchk_ok qE_ok qE_w qPh_ok h qK95, List.forall_mem_cons.mpr ⟨kchk_ok qE_ok qE_w qPh_ok h qK96, List.forall_mem_cons.mpr ⟨kchk_ok qE_ok qE_w qPh_ok h qK97, List.forall_mem_cons.mpr ⟨kchk_ok qE_ok qE_w qPh_ok h qK98, List.forall_mem_cons.mpr ⟨kchk_ok qE_ok qE_w qPh_ok h qK99, List.forall_mem_nil _⟩⟩⟩⟩⟩⟩⟩⟩⟩⟩⟩⟩⟩⟩⟩⟩⟩⟩⟩⟩⟩⟩⟩⟩⟩⟩⟩⟩⟩⟩⟩⟩⟩⟩⟩⟩⟩⟩⟩⟩⟩⟩⟩⟩⟩⟩⟩⟩⟩⟩
theorem qStep2 {X : KO} {d : Nat} (h : ∀ C ∈ qCS, kcwf C = true ∧ CV qEnv qPh (kcl qmeths X d) d C) : ∀ C ∈ qCSp2, CV qEnv qPh (kcl qmeths X (d + 1)) (d + 1) C := List.forall_mem_cons.mpr ⟨kchk_ok qE_ok qE_w qPh_ok h qK100, List.forall_mem_cons.mpr ⟨kchk_ok qE_ok qE_w qPh_ok h qK101, List.forall_mem_cons.mpr ⟨kchk_ok qE_ok qE_w qPh_ok h qK102, List.forall_mem_cons.mpr ⟨kchk_ok qE_ok qE_w qPh_ok h qK103, List.forall_mem_cons.mpr ⟨kchk_ok qE_ok qE_w qPh_ok h qK104, List.forall_mem_cons.mpr ⟨kchk_ok qE_ok qE_w qPh_ok h qK105, List.forall_mem_cons.mpr ⟨kchk_ok qE_ok qE_w qPh_ok h qK106, List.forall_mem_cons.mpr ⟨kchk_ok qE_ok qE_w qPh_ok h qK107, List.forall_mem_cons.mpr ⟨kchk_ok qE_ok qE_w qPh_ok h qK108, List.forall_mem_cons.mpr ⟨kchk_ok qE_ok qE_w qPh_ok h qK109, List.forall_mem_cons.mpr ⟨kchk_ok qE_ok qE_w qPh_ok h qK110, List.forall_mem_cons.mpr ⟨kchk_ok qE_ok qE_w qPh_ok h qK111, List.forall_mem_cons.mpr ⟨kchk_ok qE_ok qE_w qPh_ok h qK112, List.forall_mem_cons.mpr ⟨kchk_ok qE_ok qE_w qPh_ok h qK113, List.forall_mem_cons.mpr ⟨kchk_ok qE_ok qE_w qPh_ok h qK114, List.forall_mem_cons.mpr ⟨kchk_ok qE_ok qE_w qPh_ok h qK115, List.forall_mem_cons.mpr ⟨kchk_ok qE_ok qE_w qPh_ok h qK116, List.forall_mem_cons.mpr ⟨kchk_ok qE_ok qE_w qPh_ok h qK117, List.forall_mem_cons.mpr ⟨kchk_ok qE_ok qE_w qPh_ok h qK118, List.forall_mem_cons.mpr ⟨kchk_ok qE_ok qE_w qPh_ok h qK119, List.forall_mem_cons.mpr ⟨kchk_ok qE_ok qE_w qPh_ok h qK120, List.forall_mem_cons.mpr ⟨kchk_ok qE_ok qE_w qPh_ok h qK121, List.forall_mem_cons.mpr ⟨kchk_ok qE_ok qE_w qPh_ok h qK122, List.forall_mem_cons.mpr ⟨kchk_ok qE_ok qE_w qPh_ok h qK123, List.forall_mem_cons.mpr ⟨kchk_ok qE_ok qE_w qPh_ok h qK124, List.forall_mem_cons.mpr ⟨kchk_ok qE_ok qE_w qPh_ok h qK125, List.forall_mem_cons.mpr ⟨kchk_ok qE_ok qE_w qPh_ok h qK126, List.forall_mem_cons.mpr ⟨kchk_ok qE_ok qE_w qPh_ok h qK127, List.forall_mem_cons.mpr ⟨kchk_ok qE_ok qE_w qPh_ok h qK128, List.forall_mem_cons.mpr ⟨kchk_ok qE_ok qE_w qPh_ok h qK129, List.forall_mem_cons.mpr ⟨kchk_ok qE_ok qE_w qPh_ok h qK130, List.forall_mem_cons.mpr ⟨kchk_ok qE_ok qE_w qPh_ok h qK131, List.forall_mem_cons.mpr ⟨kchk_ok qE_ok qE_w qPh_ok h qK132, List.forall_mem_cons.mpr ⟨kchk_ok qE_ok qE_w qPh_ok h qK133, List.forall_mem_cons.mpr ⟨kchk_ok qE_ok qE_w qPh_ok h qK134, List.forall_mem_cons.mpr ⟨kchk_ok qE_ok qE_w qPh_ok h qK135, List.forall_mem_cons.mpr ⟨kchk_ok qE_ok qE_w qPh_ok h qK136, List.forall_mem_cons.mpr ⟨kchk_ok qE_ok qE_w qPh_ok h qK137, List.forall_mem_cons.mpr ⟨kchk_ok qE_ok qE_w qPh_ok h qK138, List.forall_mem_cons.mpr ⟨kchk_ok qE_ok qE_w qPh_ok h qK139, List.forall_mem_cons.mpr ⟨kchk_ok qE_ok qE_w qPh_ok h qK140, List.forall_mem_cons.mpr ⟨kchk_ok qE_ok qE_w qPh_ok h qK141, List.forall_mem_cons.mpr ⟨kchk_ok qE_ok qE_w qPh_ok h qK142, List.forall_mem_cons.mpr ⟨kchk_ok qE_ok qE_w qPh_ok h qK143, List.forall_mem_cons.mpr ⟨kchk_ok qE_ok qE_w qPh_ok h qK144, List.forall_mem_cons.mpr ⟨kchk_ok qE_ok qE_w qPh_ok h qK145, List.forall_mem_cons.mpr ⟨kchk_ok qE_ok qE_w qPh_ok h qK146, List.forall_mem_cons.mpr ⟨kchk_ok qE_ok qE_w qPh_ok h qK147, List.forall_mem_cons.mpr ⟨kchk_ok qE_ok qE_w qPh_ok h qK148, List.forall_mem_cons.mpr ⟨kchk_ok qE_ok qE_w qPh_ok h qK149, List.forall_mem_nil _⟩⟩⟩⟩⟩⟩⟩⟩⟩⟩⟩⟩⟩⟩⟩⟩⟩⟩⟩⟩⟩⟩⟩⟩⟩⟩⟩⟩⟩⟩⟩⟩⟩⟩⟩⟩⟩⟩⟩⟩⟩⟩⟩⟩⟩⟩⟩⟩⟩⟩
theorem qStep3 {X : KO} {d : Nat} (h : ∀ C ∈ qCS, kcwf C = true ∧ CV qEnv qPh (kcl qmeths X d) d C) : ∀ C ∈ qCSp3, CV qEnv qPh (kcl qmeths X (d + 1)) (d + 1) C := List.forall_mem_cons.mpr ⟨kchk_ok qE_ok qE_w qPh_ok h qK150, List.forall_mem_cons.mpr ⟨kchk_ok qE_ok qE_w qPh_ok h qK151, List.forall_mem_cons.mpr ⟨kchk_ok qE_ok qE_w qPh_ok h qK152, List.forall_mem_cons.mpr ⟨kchk_ok qE_ok qE_w qPh_ok h qK153, List.forall_mem_cons.mpr ⟨kchk_ok qE_ok qE_w qPh_ok h qK154, List.forall_mem_cons.mpr ⟨kchk_ok qE_ok qE_w qPh_ok h qK155, List.forall_mem_cons.mpr ⟨kchk_ok qE_ok qE_w qPh_ok h qK156, List.forall_mem_cons.mpr ⟨kchk_ok qE_ok qE_w qPh_ok h qK157, List.forall_mem_cons.mpr ⟨kchk_ok qE_ok qE_w qPh_ok h qK158, List.forall_mem_cons.mpr ⟨kchk_ok qE_ok qE_w qPh_ok h qK159, List.forall_mem_cons.mpr ⟨kchk_ok qE_ok qE_w qPh_ok h qK160, List.forall_mem_cons.mpr ⟨kchk_ok qE_ok qE_w qPh_ok h qK161, List.forall_mem_cons.mpr ⟨kchk_ok qE_ok qE_w qPh_ok h qK162, List.forall_mem_cons.mpr ⟨kchk_ok qE_ok qE_w qPh_ok h qK163, List.forall_mem_cons.mpr ⟨kchk_ok qE_ok qE_w qPh_ok h qK164, List.forall_mem_cons.mpr ⟨kchk_ok qE_ok qE_w qPh_ok h qK165, List.forall_mem_cons.mpr ⟨kchk_ok qE_ok qE_w qPh_ok h qK166, List.forall_mem_cons.mpr ⟨kchk_ok qE_ok qE_w qPh_ok h qK167, List.forall_mem_cons.mpr ⟨kchk_ok qE_ok qE_w qPh_ok h qK168, List.forall_mem_cons.mpr ⟨kchk_ok qE_ok qE_w qPh_ok h qK169, List.forall_mem_cons.mpr ⟨kchk_ok qE_ok qE_w qPh_ok h qK170, List.forall_mem_cons.mpr ⟨kchk_ok qE_ok qE_w qPh_ok h qK171, List.forall_mem_cons.mpr ⟨kchk_ok qE_ok qE_w qPh_ok h qK172, List.forall_mem_cons.mpr ⟨kchk_ok qE_ok qE_w qPh_ok h qK173, List.forall_mem_cons.mpr ⟨kchk_ok qE_ok qE_w qPh_ok h qK174, List.forall_mem_cons.mpr ⟨kchk_ok qE_ok qE_w qPh_ok h qK175, List.forall_mem_cons.mpr ⟨kchk_ok qE_ok qE_w qPh_ok h qK176, List.forall_mem_cons.mpr ⟨kchk_ok qE_ok qE_w qPh_ok h qK177, List.forall_mem_cons.mpr ⟨kchk_ok qE_ok qE_w qPh_ok h qK178, List.forall_mem_cons.mpr ⟨kchk_ok qE_ok qE_w qPh_ok h qK179, List.forall_mem_cons.mpr ⟨kchk_ok qE_ok qE_w qPh_ok h qK180, List.forall_mem_cons.mpr ⟨kchk_ok qE_ok qE_w qPh_ok h qK181, List.forall_mem_cons.mpr ⟨kchk_ok qE_ok qE_w qPh_ok h qK182, List.forall_mem_cons.mpr ⟨kchk_ok qE_ok qE_w qPh_ok h qK183, List.forall_mem_cons.mpr ⟨kchk_ok qE_ok qE_w qPh_ok h qK184, List.forall_mem_cons.mpr ⟨kchk_ok qE_ok qE_w qPh_ok h qK185, List.forall_mem_cons.mpr ⟨kchk_ok qE_ok qE_w qPh_ok h qK186, List.forall_mem_cons.mpr ⟨kchk_ok qE_ok qE_w qPh_ok h qK187, List.forall_mem_cons.mpr ⟨kchk_ok qE_ok qE_w qPh_ok h qK188, List.forall_mem_cons.mpr ⟨kchk_ok qE_ok qE_w qPh_ok h qK189, List.forall_mem_cons.mpr ⟨kchk_ok qE_ok qE_w qPh_ok h qK190, List.forall_mem_cons.mpr ⟨bits_cv qE_ok qbits, List.forall_mem_cons.mpr ⟨kchk_ok qE_ok qE_w qPh_ok h qK192, List.forall_mem_cons.mpr ⟨kchk_ok qE_ok qE_w qPh_ok h qK193, List.forall_mem_cons.mpr ⟨kchk_ok qE_ok qE_w qPh_ok h qK194, List.forall_mem_cons.mpr ⟨kchk_ok qE_ok qE_w qPh_ok h qK195, List.forall_mem_cons.mpr ⟨kchk_ok qE_ok qE_w qPh_ok h qK196, List.forall_mem_cons.mpr ⟨kchk_ok qE_ok qE_w qPh_ok h qK197, List.forall_mem_cons.mpr ⟨kchk_ok qE_ok qE_w qPh_ok h qK198, List.forall_mem_cons.mpr ⟨kchk_ok qE_ok qE_w qPh_ok h qK199, List.forall_mem_nil _⟩⟩⟩⟩⟩⟩⟩⟩⟩⟩⟩⟩⟩⟩⟩⟩⟩⟩⟩⟩⟩⟩⟩⟩⟩⟩⟩⟩⟩⟩⟩⟩⟩⟩⟩⟩⟩⟩⟩⟩⟩⟩⟩⟩⟩⟩⟩⟩⟩⟩
theorem qStep4 {X : KO} {d : Nat} (h : ∀ C ∈ qCS, kcwf C = true ∧ CV qEnv qPh (kcl qmeths X d) d C) : ∀ C ∈ qCSp4, CV qEnv qPh (kcl qmeths X (d + 1)) (d + 1) C := List.forall_mem_cons.mpr ⟨kchk_ok qE_ok qE_w qPh_ok h qK200, List.forall_mem_cons.mpr ⟨kchk_ok qE_ok qE_w qPh_ok h qK201, List.forall_mem_cons.mpr ⟨kchk_ok qE_ok qE_w qPh_ok h qK202, List.forall_mem_cons.mpr ⟨kchk_ok qE_ok qE_w qPh_ok h qK203, List.forall_mem_cons.mpr ⟨kchk_ok qE_ok qE_w qPh_ok h qK204, List.forall_mem_cons.mpr ⟨kchk_ok qE_ok qE_w qPh_ok h qK205, List.forall_mem_cons.mpr ⟨kchk_ok qE_ok qE_w qPh_ok h qK206, List.forall_mem_cons.mpr ⟨kchk_ok qE_ok qE_w qPh_ok h qK207, List.forall_mem_cons.mpr ⟨kchk_ok qE_ok qE_w qPh_ok h qK208, List.forall_mem_cons.mpr ⟨kchk_ok qE_ok qE_w qPh_ok h qK209, List.forall_mem_cons.mpr ⟨kchk_ok qE_ok qE_w qPh_ok h qK210, List.forall_mem_cons.mpr ⟨kchk_ok qE_ok qE_w qPh_ok h qK211, List.forall_mem_cons.mpr ⟨kchk_ok qE_ok qE_w qPh_ok h qK212, List.forall_mem_cons.mpr ⟨kchk_ok qE_ok qE_w qPh_ok h qK213, List.forall_mem_cons.mpr ⟨kchk_ok qE_ok qE_w qPh_ok h qK214, List.forall_mem_cons.mpr ⟨kchk_ok qE_ok qE_w qPh_ok h qK215, List.forall_mem_cons.mpr ⟨kchk_ok qE_ok qE_w qPh_ok h qK216, List.forall_mem_cons.mpr ⟨kchk_ok qE_ok qE_w qPh_ok h qK217, List.forall_mem_cons.mpr ⟨kchk_ok qE_ok qE_w qPh_ok h qK218, List.forall_mem_cons.mpr ⟨kchk_ok qE_ok qE_w qPh_ok h qK219, List.forall_mem_cons.mpr ⟨kchk_ok qE_ok qE_w qPh_ok h qK220, List.forall_mem_cons.mpr ⟨kchk_ok qE_ok qE_w qPh_ok h qK221, List.forall_mem_cons.mpr ⟨kchk_ok qE_ok qE_w qPh_ok h qK222, List.forall_mem_cons.mpr ⟨kchk_ok qE_ok qE_w qPh_ok h qK223, List.forall_mem_cons.mpr ⟨kchk_ok qE_ok qE_w qPh_ok h qK224, List.forall_mem_cons.mpr ⟨kchk_ok qE_ok qE_w qPh_ok h qK225, List.forall_mem_cons.mpr ⟨kchk_ok qE_ok qE_w qPh_ok h qK226, List.forall_mem_cons.mpr ⟨kchk_ok qE_ok qE_w qPh_ok h qK227, List.forall_mem_cons.mpr ⟨kchk_ok qE_ok qE_w qPh_ok h qK228, List.forall_mem_cons.mpr ⟨kchk_ok qE_ok qE_w qPh_ok h qK229, List.forall_mem_cons.mpr ⟨kchk_ok qE_ok qE_w qPh_ok h qK230, List.forall_mem_cons.mpr ⟨kchk_ok qE_ok qE_w qPh_ok h qK231, List.forall_mem_cons.mpr ⟨kchk_ok qE_ok qE_w qPh_ok h qK232, List.forall_mem_cons.mpr ⟨kchk_ok qE_ok qE_w qPh_ok h qK233, List.forall_mem_cons.mpr ⟨kchk_ok qE_ok qE_w qPh_ok h qK234, List.forall_mem_cons.mpr ⟨kchk_ok qE_ok qE_w qPh_ok h qK235, List.forall_mem_cons.mpr ⟨kchk_ok qE_ok qE_w qPh_ok h qK236, List.forall_mem_cons.mpr ⟨kchk_ok qE_ok qE_w qPh_ok h qK237, List.forall_mem_cons.mpr ⟨kchk_ok qE_ok qE_w qPh_ok h qK238, List.forall_mem_cons.mpr ⟨kchk_ok qE_ok qE_w qPh_ok h qK239, List.forall_mem_cons.mpr ⟨kchk_ok qE_ok qE_w qPh_ok h qK240, List.forall_mem_cons.mpr ⟨kchk_ok qE_ok qE_w qPh_ok h qK241, List.forall_mem_cons.mpr ⟨kchk_ok qE_ok qE_w qPh_ok h qK242, List.forall_mem_cons.mpr ⟨kchk_ok qE_ok qE_w qPh_ok h qK243, List.forall_mem_cons.mpr ⟨kchk_ok qE_ok qE_w qPh_ok h qK244, List.forall_mem_cons.mpr ⟨kchk_ok qE_ok qE_w qPh_ok h qK245, List.forall_mem_cons.mpr ⟨kchk_ok qE_ok qE_w qPh_ok h qK246, List.forall_mem_cons.mpr ⟨kchk_ok qE_ok qE_w qPh_ok h qK247, List.forall_mem_cons.mpr ⟨kchk_ok qE_ok qE_w qPh_ok h qK248, List.forall_mem_cons.mpr ⟨kchk_ok qE_ok qE_w qPh_ok h qK249, List.forall_mem_nil _⟩⟩⟩⟩⟩⟩⟩⟩⟩⟩⟩⟩⟩⟩⟩⟩⟩⟩⟩⟩⟩⟩⟩⟩⟩⟩⟩⟩⟩⟩⟩⟩⟩⟩⟩⟩⟩⟩⟩⟩⟩⟩⟩⟩⟩⟩⟩⟩⟩⟩
theorem qStep5 {X : KO} {d : Nat} (h : ∀ C ∈ qCS, kcwf C = true ∧ CV qEnv qPh (kcl qmeths X d) d C) : ∀ C ∈ qCSp5, CV qEnv qPh (kcl qmeths X (d + 1)) (d + 1) C := List.forall_mem_cons.mpr ⟨kchk_ok qE_ok qE_w qPh_ok h qK250, List.forall_mem_cons.mpr ⟨kchk_ok qE_ok qE_w qPh_ok h qK251, List.forall_mem_cons.mpr ⟨kchk_ok qE_ok qE_w qPh_ok h qK252, List.forall_mem_cons.mpr ⟨kchk_ok qE_ok qE_w qPh_ok h qK253, List.forall_mem_cons.mpr ⟨kchk_ok qE_ok qE_w qPh_ok h qK254, List.forall_mem_cons.mpr ⟨kchk_ok qE_ok qE_w qPh_ok h qK255, List.forall_mem_cons.mpr ⟨kchk_ok qE_ok qE_w qPh_ok h qK256, List.forall_mem_cons.mpr ⟨kchk_ok qE_ok qE_w qPh_ok h qK257, List.forall_mem_cons.mpr ⟨kchk_ok qE_ok qE_w qPh_ok h qK258, List.forall_mem_cons.mpr ⟨kchk_ok qE_ok qE_w qPh_ok h qK259, List.forall_mem_cons.mpr ⟨kchk_ok qE_ok qE_w qPh_ok h qK260, List.forall_mem_cons.mpr ⟨kchk_ok qE_ok qE_w qPh_ok h qK261, List.forall_mem_cons.mpr ⟨kchk_ok qE_ok qE_w qPh_ok h qK262, List.forall_mem_cons.mpr ⟨kchk_ok qE_ok qE_w qPh_ok h qK263, List.forall_mem_cons.mpr ⟨kchk_ok qE_ok qE_w qPh_ok h qK264, List.forall_mem_cons.mpr ⟨kchk_ok qE_ok qE_w qPh_ok h qK265, List.forall_mem_cons.mpr ⟨kchk_ok qE_ok qE_w qPh_ok h qK266, List.forall_mem_cons.mpr ⟨kchk_ok qE_ok qE_w qPh_ok h qK267, List.forall_mem_cons.mpr ⟨kchk_ok qE_ok qE_w qPh_ok h qK268, List.forall_mem_cons.mpr ⟨kchk_ok qE_ok qE_w qPh_ok h qK269, List.forall_mem_cons.mpr ⟨kchk_ok qE_ok qE_w qPh_ok h qK270, List.forall_mem_cons.mpr ⟨kchk_ok qE_ok qE_w qPh_ok h qK271, List.forall_mem_cons.mpr ⟨kchk_ok qE_ok qE_w qPh_ok h qK272, List.forall_mem_cons.mpr ⟨kchk_ok qE_ok qE_w qPh_ok h qK273, List.forall_mem_cons.mpr ⟨kchk_ok qE_ok qE_w qPh_ok h qK274, List.forall_mem_cons.mpr ⟨kchk_ok qE_ok qE_w qPh_ok h qK275, List.forall_mem_cons.mpr ⟨kchk_ok qE_ok qE_w qPh_ok h qK276, List.forall_mem_cons.mpr ⟨kchk_ok qE_ok qE_w qPh_ok h qK277, List.forall_mem_cons.mpr ⟨kchk_ok qE_ok qE_w qPh_ok h qK278, List.forall_mem_cons.mpr ⟨kchk_ok qE_ok qE_w qPh_ok h qK279, List.forall_mem_cons.mpr ⟨kchk_ok qE_ok qE_w qPh_ok h qK280, List.forall_mem_cons.mpr ⟨kchk_ok qE_ok qE_w qPh_ok h qK281, List.forall_mem_cons.mpr ⟨kchk_ok qE_ok qE_w qPh_ok h qK282, List.forall_mem_cons.mpr ⟨kchk_ok qE_ok qE_w qPh_ok h qK283, List.forall_mem_cons.mpr ⟨kchk_ok qE_ok qE_w qPh_ok h qK284, List.forall_mem_cons.mpr ⟨kchk_ok qE_ok qE_w qPh_ok h qK285, List.forall_mem_cons.mpr ⟨kchk_ok qE_ok qE_w qPh_ok h qK286, List.forall_mem_cons.mpr ⟨kchk_ok qE_ok qE_w qPh_ok h qK287, List.forall_mem_cons.mpr ⟨kchk_ok qE_ok qE_w qPh_ok h qK288, List.forall_mem_cons.mpr ⟨kchk_ok qE_ok qE_w qPh_ok h qK289, List.forall_mem_cons.mpr ⟨kchk_ok qE_ok qE_w qPh_ok h qK290, List.forall_mem_cons.mpr ⟨kchk_ok qE_ok qE_w qPh_ok h qK291, List.forall_mem_cons.mpr ⟨kchk_ok qE_ok qE_w qPh_ok h qK292, List.forall_mem_cons.mpr ⟨kchk_ok qE_ok qE_w qPh_ok h qK293, List.forall_mem_cons.mpr ⟨kchk_ok qE_ok qE_w qPh_ok h qK294, List.forall_mem_cons.mpr ⟨kchk_ok qE_ok qE_w qPh_ok h qK295, List.forall_mem_cons.mpr ⟨kchk_ok qE_ok qE_w qPh_ok h qK296, List.forall_mem_cons.mpr ⟨kchk_ok qE_ok qE_w qPh_ok h qK297, List.forall_mem_cons.mpr ⟨kchk_ok qE_ok qE_w qPh_ok h qK298, List.forall_mem_cons.mpr ⟨kchk_ok qE_ok qE_w qPh_ok h qK299, List.forall_mem_nil _⟩⟩⟩⟩⟩⟩⟩⟩⟩⟩⟩⟩⟩⟩⟩⟩⟩⟩⟩⟩⟩⟩⟩⟩⟩⟩⟩⟩⟩⟩⟩⟩⟩⟩⟩⟩⟩⟩⟩⟩⟩⟩⟩⟩⟩⟩⟩⟩⟩⟩
theorem qStep6 {X : KO} {d : Nat} (h : ∀ C ∈ qCS, kcwf C = true ∧ CV qEnv qPh (kcl qmeths X d) d C) : ∀ C ∈ qCSp6, CV qEnv qPh (kcl qmeths X (d + 1)) (d + 1) C := List.forall_mem_cons.mpr ⟨kchk_ok qE_ok qE_w qPh_ok h qK300, List.forall_mem_cons.mpr ⟨kchk_ok qE_ok qE_w qPh_ok h qK301, List.forall_mem_cons.mpr ⟨kchk_ok qE_ok qE_w qPh_ok h qK302, List.forall_mem_cons.mpr ⟨kchk_ok qE_ok qE_w qPh_ok h qK303, List.forall_mem_cons.mpr ⟨kchk_ok qE_ok qE_w qPh_ok h qK304, List.forall_mem_cons.mpr ⟨kchk_ok qE_ok qE_w qPh_ok h qK305, List.forall_mem_cons.mpr ⟨kchk_ok qE_ok qE_w qPh_ok h qK306, List.forall_mem_cons.mpr ⟨kchk_ok qE_ok qE_w qPh_ok h qK307, List.forall_mem_cons.mpr ⟨kchk_ok qE_ok qE_w qPh_ok h qK308, List.forall_mem_cons.mpr ⟨kchk_ok qE_ok qE_w qPh_ok h qK309, List.forall_mem_cons.mpr ⟨kchk_ok qE_ok qE_w qPh_ok h qK310, List.forall_mem_cons.mpr ⟨kchk_ok qE_ok qE_w qPh_ok h qK311, List.forall_mem_cons.mpr ⟨kchk_ok qE_ok qE_w qPh_ok h qK312, List.forall_mem_cons.mpr ⟨kchk_ok qE_ok qE_w qPh_ok h qK313, List.forall_mem_cons.mpr ⟨kchk_ok qE_ok qE_w qPh_ok h qK314, List.forall_mem_cons.mpr ⟨kchk_ok qE_ok qE_w qPh_ok h qK315, List.forall_mem_cons.mpr ⟨kchk_ok qE_ok qE_w qPh_ok h qK316, List.forall_mem_cons.mpr ⟨kchk_ok qE_ok qE_w qPh_ok h qK317, List.forall_mem_cons.mpr ⟨kchk_ok qE_ok qE_w qPh_ok h qK318, List.forall_mem_cons.mpr ⟨kchk_ok qE_ok qE_w qPh_ok h qK319, List.forall_mem_cons.mpr ⟨kchk_ok qE_ok qE_w qPh_ok h qK320, List.forall_mem_cons.mpr ⟨kchk_ok qE_ok qE_w qPh_ok h qK321, List.forall_mem_cons.mpr ⟨kchk_ok qE_ok qE_w qPh_ok h qK322, List.forall_mem_cons.mpr ⟨kchk_ok qE_ok qE_w qPh_ok h qK323, List.forall_mem_cons.mpr ⟨kchk_ok qE_ok qE_w qPh_ok h qK324, List.forall_mem_cons.mpr ⟨kchk_ok qE_ok qE_w qPh_ok h qK325, List.forall_mem_cons.mpr ⟨kchk_ok qE_ok qE_w qPh_ok h qK326, List.forall_mem_cons.mpr ⟨kchk_ok qE_ok qE_w qPh_ok h qK327, List.forall_mem_cons.mpr ⟨kchk_ok qE_ok qE_w qPh_ok h qK328, List.forall_mem_cons.mpr ⟨kchk_ok qE_ok qE_w qPh_ok h qK329, List.forall_mem_cons.mpr ⟨kchk_ok qE_ok qE_w qPh_ok h qK330, List.forall_mem_cons.mpr ⟨kchk_ok qE_ok qE_w qPh_ok h qK331, List.forall_mem_cons.mpr ⟨kchk_ok qE_ok qE_w qPh_ok h qK332, List.forall_mem_cons.mpr ⟨kchk_ok qE_ok qE_w qPh_ok h qK333, List.forall_mem_cons.mpr ⟨kchk_ok qE_ok qE_w qPh_ok h qK334, List.forall_mem_cons.mpr ⟨kchk_ok qE_ok qE_w qPh_ok h qK335, List.forall_mem_cons.mpr ⟨kchk_ok qE_ok qE_w qPh_ok h qK336, List.forall_mem_cons.mpr ⟨kchk_ok qE_ok qE_w qPh_ok h qK337, List.forall_mem_cons.mpr ⟨kchk_ok qE_ok qE_w qPh_ok h qK338, List.forall_mem_cons.mpr ⟨kchk_ok qE_ok qE_w qPh_ok h qK339, List.forall_mem_cons.mpr ⟨kchk_ok qE_ok qE_w qPh_ok h qK340, List.forall_mem_cons.mpr ⟨kchk_ok qE_ok qE_w qPh_ok h qK341, List.forall_mem_cons.mpr ⟨kchk_ok qE_ok qE_w qPh_ok h qK342, List.forall_mem_cons.mpr ⟨kchk_ok qE_ok qE_w qPh_ok h qK343, List.forall_mem_cons.mpr ⟨kchk_ok qE_ok qE_w qPh_ok h qK344, List.forall_mem_cons.mpr ⟨kchk_ok qE_ok qE_w qPh_ok h qK345, List.forall_mem_cons.mpr ⟨kchk_ok qE_ok qE_w qPh_ok h qK346, List.forall_mem_cons.mpr ⟨kchk_ok qE_ok qE_w qPh_ok h qK347, List.forall_mem_cons.mpr ⟨kchk_ok qE_ok qE_w qPh_ok h qK348, List.forall_mem_cons.mpr ⟨kchk_ok qE_ok qE_w qPh_ok h qK349, List.forall_mem_nil _⟩⟩⟩⟩⟩⟩⟩⟩⟩⟩⟩⟩⟩⟩⟩⟩⟩⟩⟩⟩⟩⟩⟩⟩⟩⟩⟩⟩⟩⟩⟩⟩⟩⟩⟩⟩⟩⟩⟩⟩⟩⟩⟩⟩⟩⟩⟩⟩⟩⟩
theorem qStep7 {X : KO} {d : Nat} (h : ∀ C ∈ qCS, kcwf C = true ∧ CV qEnv qPh (kcl qmeths X d) d C) : ∀ C ∈ qCSp7, CV qEnv qPh (kcl qmeths X (d + 1)) (d + 1) C := List.forall_mem_cons.mpr ⟨kchk_ok qE_ok qE_w qPh_ok h qK350, List.forall_mem_cons.mpr ⟨kchk_ok qE_ok qE_w qPh_ok h qK351, List.forall_mem_cons.mpr ⟨kchk_ok qE_ok qE_w qPh_ok h qK352, List.forall_mem_cons.mpr ⟨kchk_ok qE_ok qE_w qPh_ok h qK353, List.forall_mem_cons.mpr ⟨kchk_ok qE_ok qE_w qPh_ok h qK354, List.forall_mem_cons.mpr ⟨kchk_ok qE_ok qE_w qPh_ok h qK355, List.forall_mem_cons.mpr ⟨kchk_ok qE_ok qE_w qPh_ok h qK356, List.forall_mem_cons.mpr ⟨kchk_ok qE_ok qE_w qPh_ok h qK357, List.forall_mem_cons.mpr ⟨kchk_ok qE_ok qE_w qPh_ok h qK358, List.forall_mem_cons.mpr ⟨kchk_ok qE_ok qE_w qPh_ok h qK359, List.forall_mem_cons.mpr ⟨kchk_ok qE_ok qE_w qPh_ok h qK360, List.forall_mem_cons.mpr ⟨kchk_ok qE_ok qE_w qPh_ok h qK361, List.forall_mem_cons.mpr ⟨kchk_ok qE_ok qE_w qPh_ok h qK362, List.forall_mem_cons.mpr ⟨kchk_ok qE_ok qE_w qPh_ok h qK363, List.forall_mem_cons.mpr ⟨kchk_ok qE_ok qE_w qPh_ok h qK364, List.forall_mem_cons.mpr ⟨kchk_ok qE_ok qE_w qPh_ok h qK365, List.forall_mem_cons.mpr ⟨kchk_ok qE_ok qE_w qPh_ok h qK366, List.forall_mem_cons.mpr ⟨kchk_ok qE_ok qE_w qPh_ok h qK367, List.forall_mem_cons.mpr ⟨kchk_ok qE_ok qE_w qPh_ok h qK368, List.forall_mem_cons.mpr ⟨kchk_ok qE_ok qE_w qPh_ok h qK369, List.forall_mem_cons.mpr ⟨kchk_ok qE_ok qE_w qPh_ok h qK370, List.forall_mem_cons.mpr ⟨kchk_ok qE_ok qE_w qPh_ok h qK371, List.forall_mem_cons.mpr ⟨kchk_ok qE_ok qE_w qPh_ok h qK372, List.forall_mem_cons.mpr ⟨kchk_ok qE_ok qE_w qPh_ok h qK373, List.forall_mem_cons.mpr ⟨kchk_ok qE_ok qE_w qPh_ok h qK374, List.forall_mem_cons.mpr ⟨kchk_ok qE_ok qE_w qPh_ok h qK375, List.forall_mem_cons.mpr ⟨kchk_ok qE_ok qE_w qPh_ok h qK376, List.forall_mem_cons.mpr ⟨kchk_ok qE_ok qE_w qPh_ok h qK377, List.forall_mem_cons.mpr ⟨kchk_ok qE_ok qE_w qPh_ok h qK378, List.forall_mem_cons.mpr ⟨kchk_ok qE_ok qE_w qPh_ok h qK379, List.forall_mem_cons.mpr ⟨kchk_ok qE_ok qE_w qPh_ok h qK380, List.forall_mem_cons.mpr ⟨kchk_ok qE_ok qE_w qPh_ok h qK381, List.forall_mem_cons.mpr ⟨kchk_ok qE_ok qE_w qPh_ok h qK382, List.forall_mem_cons.mpr ⟨kchk_ok qE_ok qE_w qPh_ok h qK383, List.forall_mem_cons.mpr ⟨kchk_ok qE_ok qE_w qPh_ok h qK384, List.forall_mem_cons.mpr ⟨kchk_ok qE_ok qE_w qPh_ok h qK385, List.forall_mem_cons.mpr ⟨kchk_ok qE_ok qE_w qPh_ok h qK386, List.forall_mem_cons.mpr ⟨kchk_ok qE_ok qE_w qPh_ok h qK387, List.forall_mem_cons.mpr ⟨kchk_ok qE_ok qE_w qPh_ok h qK388, List.forall_mem_cons.mpr ⟨kchk_ok qE_ok qE_w qPh_ok h qK389, List.forall_mem_cons.mpr ⟨kchk_ok qE_ok qE_w qPh_ok h qK390, List.forall_mem_cons.mpr ⟨kchk_ok qE_ok qE_w qPh_ok h qK391, List.forall_mem_cons.mpr ⟨kchk_ok qE_ok qE_w qPh_ok h qK392, List.forall_mem_cons.mpr ⟨kchk_ok qE_ok qE_w qPh_ok h qK393, List.forall_mem_cons.mpr ⟨kchk_ok qE_ok qE_w qPh_ok h qK394, List.forall_mem_cons.mpr ⟨kchk_ok qE_ok qE_w qPh_ok h qK395, List.forall_mem_cons.mpr ⟨kchk_ok qE_ok qE_w qPh_ok h qK396, List.forall_mem_cons.mpr ⟨kchk_ok qE_ok qE_w qPh_ok h qK397, List.forall_mem_cons.mpr ⟨kchk_ok qE_ok qE_w qPh_ok h qK398, List.forall_mem_cons.mpr ⟨kchk_ok qE_ok qE_w qPh_ok h qK399, List.forall_mem_nil _⟩⟩⟩⟩⟩⟩⟩⟩⟩⟩⟩⟩⟩⟩⟩⟩⟩⟩⟩⟩⟩⟩⟩⟩⟩⟩⟩⟩⟩⟩⟩⟩⟩⟩⟩⟩⟩⟩⟩⟩⟩⟩⟩⟩⟩⟩⟩⟩⟩⟩
theorem qStep8 {X : KO} {d : Nat} (h : ∀ C ∈ qCS, kcwf C = true ∧ CV qEnv qPh (kcl qmeths X d) d C) : ∀ C ∈ qCSp8, CV qEnv qPh (kcl qmeths X (d + 1)) (d + 1) C := List.forall_mem_cons.mpr ⟨kchk_ok qE_ok qE_w qPh_ok h qK400, List.forall_mem_cons.mpr ⟨kchk_ok qE_ok qE_w qPh_ok h qK401, List.forall_mem_cons.mpr ⟨kchk_ok qE_ok qE_w qPh_ok h qK402, List.forall_mem_cons.mpr ⟨kchk_ok qE_ok qE_w qPh_ok h qK403, List.forall_mem_cons.mpr ⟨kchk_ok qE_ok qE_w qPh_ok h qK404, List.forall_mem_cons.mpr ⟨kchk_ok qE_ok qE_w qPh_ok h qK405, List.forall_mem_cons.mpr ⟨kchk_ok qE_ok qE_w qPh_ok h qK406, List.forall_mem_cons.mpr ⟨kchk_ok qE_ok qE_w qPh_ok h qK407, List.forall_mem_cons.mpr ⟨kchk_ok qE_ok qE_w qPh_ok h qK408, List.forall_mem_cons.mpr ⟨kchk_ok qE_ok qE_w qPh_ok h qK409, List.forall_mem_cons.mpr ⟨kchk_ok qE_ok qE_w qPh_ok h qK410, List.forall_mem_cons.mpr ⟨kchk_ok qE_ok qE_w qPh_ok h qK411, List.forall_mem_cons.mpr ⟨kchk_ok qE_ok qE_w qPh_ok h qK412, List.forall_mem_cons.mpr ⟨kchk_ok qE_ok qE_w qPh_ok h qK413, List.forall_mem_cons.mpr ⟨kchk_ok qE_ok qE_w qPh_ok h qK414, List.forall_mem_cons.mpr ⟨kchk_ok qE_ok qE_w qPh_ok h qK415, List.forall_mem_cons.mpr ⟨kchk_ok qE_ok qE_w qPh_ok h qK416, List.forall_mem_cons.mpr ⟨kchk_ok qE_ok qE_w qPh_ok h qK417, List.forall_mem_cons.mpr ⟨kchk_ok qE_ok qE_w qPh_ok h qK418, List.forall_mem_cons.mpr ⟨kchk_ok qE_ok qE_w qPh_ok h qK419, List.forall_mem_cons.mpr ⟨kchk_ok qE_ok qE_w qPh_ok h qK420, List.forall_mem_cons.mpr ⟨kchk_ok qE_ok qE_w qPh_ok h qK421, List.forall_mem_cons.mpr ⟨kchk_ok qE_ok qE_w qPh_ok h qK422, List.forall_mem_cons.mpr ⟨kchk_ok qE_ok qE_w qPh_ok h qK423, List.forall_mem_cons.mpr ⟨kchk_ok qE_ok qE_w qPh_ok h qK424, List.forall_mem_cons.mpr ⟨kchk_ok qE_ok qE_w qPh_ok h qK425, List.forall_mem_cons.mpr ⟨kchk_ok qE_ok qE_w qPh_ok h qK426, List.forall_mem_cons.mpr ⟨kchk_ok qE_ok qE_w qPh_ok h qK427, List.forall_mem_cons.mpr ⟨kchk_ok qE_ok qE_w qPh_ok h qK428, List.forall_mem_cons.mpr ⟨kchk_ok qE_ok qE_w qPh_ok h qK429, List.forall_mem_cons.mpr ⟨kchk_ok qE_ok qE_w qPh_ok h qK430, List.forall_mem_cons.mpr ⟨kchk_ok qE_ok qE_w qPh_ok h qK431, List.forall_mem_cons.mpr ⟨kchk_ok qE_ok qE_w qPh_ok h qK432, List.forall_mem_cons.mpr ⟨kchk_ok qE_ok qE_w qPh_ok h qK433, List.forall_mem_cons.mpr ⟨kchk_ok qE_ok qE_w qPh_ok h qK434, List.forall_mem_cons.mpr ⟨kchk_ok qE_ok qE_w qPh_ok h qK435, List.forall_mem_cons.mpr ⟨kchk_ok qE_ok qE_w qPh_ok h qK436, List.forall_mem_cons.mpr ⟨kchk_ok qE_ok qE_w qPh_ok h qK437, List.forall_mem_cons.mpr ⟨kchk_ok qE_ok qE_w qPh_ok h qK438, List.forall_mem_cons.mpr ⟨kchk_ok qE_ok qE_w qPh_ok h qK439, List.forall_mem_cons.mpr ⟨kchk_ok qE_ok qE_w qPh_ok h qK440, List.forall_mem_cons.mpr ⟨kchk_ok qE_ok qE_w qPh_ok h qK441, List.forall_mem_cons.mpr ⟨kchk_ok qE_ok qE_w qPh_ok h qK442, List.forall_mem_cons.mpr ⟨kchk_ok qE_ok qE_w qPh_ok h qK443, List.forall_mem_cons.mpr ⟨kchk_ok qE_ok qE_w qPh_ok h qK444, List.forall_mem_cons.mpr ⟨kchk_ok qE_ok qE_w qPh_ok h qK445, List.forall_mem_cons.mpr ⟨kchk_ok qE_ok qE_w qPh_ok h qK446, List.forall_mem_cons.mpr ⟨kchk_ok qE_ok qE_w qPh_ok h qK447, List.forall_mem_cons.mpr ⟨kchk_ok qE_ok qE_w qPh_ok h qK448, List.forall_mem_cons.mpr ⟨kchk_ok qE_ok qE_w qPh_ok h qK449, List.forall_mem_nil _⟩⟩⟩⟩⟩⟩⟩⟩⟩⟩⟩⟩⟩⟩⟩⟩⟩⟩⟩⟩⟩⟩⟩⟩⟩⟩⟩⟩⟩⟩⟩⟩⟩⟩⟩⟩⟩⟩⟩⟩⟩⟩⟩⟩⟩⟩⟩⟩⟩⟩
theorem qStep9 {X : KO} {d : Nat} (h : ∀ C ∈ qCS, kcwf C = true ∧ CV qEnv qPh (kcl qmeths X d) d C) : ∀ C ∈ qCSp9, CV qEnv qPh (kcl qmeths X (d + 1)) (d + 1) C := List.forall_mem_cons.mpr ⟨kchk_ok qE_ok qE_w qPh_ok h qK450, List.forall_mem_cons.mpr ⟨kchk_ok qE_ok qE_w qPh_ok h qK451, List.forall_mem_cons.mpr ⟨kchk_ok qE_ok qE_w qPh_ok h qK452, List.forall_mem_cons.mpr ⟨kchk_ok qE_ok qE_w qPh_ok h qK453, List.forall_mem_cons.mpr ⟨kchk_ok qE_ok qE_w qPh_ok h qK454, List.forall_mem_cons.mpr ⟨kchk_ok qE_ok qE_w qPh_ok h qK455, List.forall_mem_nil _⟩⟩⟩⟩⟩⟩
theorem qAll (X : KO) : ∀ d, ∀ C ∈ qCS, kcwf C = true ∧ CV qEnv qPh (kcl qmeths X d) d C := kcs_ok qE_ok qCS_wf (fun d h C hC => by
  unfold qCS at hC
  simp only [List.mem_append] at hC
  rcases hC with ((((((((hC | hC) | hC) | hC) | hC) | hC) | hC) | hC) | hC) | hC
  · exact qStep0 h C hC
  · exact qStep1 h C hC
  · exact qStep2 h C hC
  · exact qStep3 h C hC
  · exact qStep4 h C hC
  · exact qStep5 h C hC
  · exact qStep6 h C hC
  · exact qStep7 h C hC
  · exact qStep8 h C hC
  · exact qStep9 h C hC)
end
section
/-! The other steps are sound: longs, rests, switches by numbers, rows of chars. -/
section KROWS9
variable {p : Program} {l : Launch} {e : Env} {R : Room} {s : State} {m : MethodId} {args : Array Value} {below : List Frame} {meth : Method} {cd : Code} {Q : State → Prop} {D : va_G} {dA : Nat → ClassId} {ρ : Nat → Int32} {A : Nat → Prop} {nL : Nat} {ad0 : Nat → Nat} {n0 : Nat} {cc : ByteArray} {own mname : String} {zs : KZ} {rg : List (Int × Int)}
variable {pc : Nat} {lo : List (Nat × KV)} {st : List KV} {w : KW} {c sl : Nat} {k : KF} {Rc Rs : Nat}
theorem k_lld {i len : Nat} (hrow : ∀ (ad : Nat → Nat) (H : Heap) (locs : List Loc) (ls : Array Slot) (x : Int64), ls[i]? = some (.val (.long x)) → W p l e R s m args below meth cd H locs c sl Q (F0 m (pc + len) ls (.long x :: st.map (kV ad ρ))) → W p l e R s m args below meth cd H locs c sl Q (F0 m pc ls (st.map (kV ad ρ)))) (h : kld kisG i len pc lo st w c sl = some k) (g : kGo p l e R s m args below meth cd Q D dA ρ A nL ad0 n0 (k)) : kGo p l e R s m args below meth cd Q D dA ρ A nL ad0 n0 ((pc, lo, st, w, c, sl)) := by
  unfold kld at h
  split at h
  · rename_i v hk
    cases hv : kisG v with
    | false => rw [hv] at h; cases h
    | true =>
      rw [hv] at h; cases h
      obtain ⟨x, rfl⟩ := kisG_eq hv
      intro ad H locs ls hat
      exact hrow ad H locs ls _ (kL_get hat.1 hk) (g ad H locs ls hat)
  · cases h
theorem k_lst2 {i len : Nat} (hrow : ∀ (ad : Nat → Nat) (H : Heap) (locs : List Loc) (ls : Array Slot) (x : Int64) (rest : List Value) (lv lv' : List (Nat × Value)), lv_has ls nL lv → i + 1 < nL → (i, Value.long x) :: lv.filter (fun q => !(q.1 == i) && (!(q.1 == i + 1) && !(q.1 + 1 == i && q.2.category == 2))) = lv' → (∀ ls' : Array Slot, lv_has ls' nL lv' → W p l e R s m args below meth cd H locs c sl Q (F0 m (pc + len) ls' rest)) → W p l e R s m args below meth cd H locs c sl Q (F0 m pc ls (.long x :: rest))) (h : kst2 i len nL pc lo st w c sl = some k) (g : kGo p l e R s m args below meth cd Q D dA ρ A nL ad0 n0 (k)) : kGo p l e R s m args below meth cd Q D dA ρ A nL ad0 n0 ((pc, lo, st, w, c, sl)) := by
  unfold kst2 at h
  split at h
  · rename_i x rest
    obtain ⟨hi, h⟩ := kcond_inv h
    cases h
    intro ad H locs ls hat
    have e1 := klo2_c ad ρ lo i (.inl (.long x))
    exact hrow ad H locs ls _ _ _ _ hat.1 (Nat.ble_eq.mp hi) e1 (fun ls' hl' => g ad H locs ls' ⟨hl', hat.2⟩)
  · cases h
theorem k_binL {f : Int64 → Int64 → Int64} (hrow : ∀ (H : Heap) (locs : List Loc) (ls : Array Slot) (x y : Int64) (rest : List Value), W p l e R s m args below meth cd H locs c sl Q (F0 m (pc + 1) ls (.long (f x y) :: rest)) → W p l e R s m args below meth cd H locs c sl Q (F0 m pc ls (.long y :: .long x :: rest))) (h : kbinL f pc lo st w c sl = some k) (g : kGo p l e R s m args below meth cd Q D dA ρ A nL ad0 n0 (k)) : kGo p l e R s m args below meth cd Q D dA ρ A nL ad0 n0 ((pc, lo, st, w, c, sl)) := by
  unfold kbinL at h
  split at h
  · cases h
    exact fun ad H locs ls hat => hrow H locs ls _ _ _ (g ad H locs ls hat)
  · cases h
theorem k_dvL {f : Int64 → Int64 → Int64} (hrow : ∀ (H : Heap) (locs : List Loc) (ls : Array Slot) (x y : Int64) (rest : List Value), ¬ y = 0 → W p l e R s m args below meth cd H locs c sl Q (F0 m (pc + 1) ls (.long (f x y) :: rest)) → W p l e R s m args below meth cd H locs c sl Q (F0 m pc ls (.long y :: .long x :: rest))) (h : kdvL f pc lo st w c sl = some k) (g : kGo p l e R s m args below meth cd Q D dA ρ A nL ad0 n0 (k)) : kGo p l e R s m args below meth cd Q D dA ρ A nL ad0 n0 ((pc, lo, st, w, c, sl)) := by
  unfold kdvL at h
  split at h
  · rename_i y x rest
    cases hb : decide (y = 0) with
    | true => rw [hb] at h; cases h
    | false =>
      rw [hb] at h
      cases h
      exact fun ad H locs ls hat => hrow H locs ls _ _ _ (of_decide_eq_false hb) (g ad H locs ls hat)
  · cases h
theorem k_lsr (F : kFix p s m args meth cd cc nL own mname D dA A zs ad0) (hd : decode cc pc = .ok (.lushr, 1)) (h : klsr pc lo st w c sl = some k) (g : kGo p l e R s m args below meth cd Q D dA ρ A nL ad0 n0 (k)) : kGo p l e R s m args below meth cd Q D dA ρ A nL ad0 n0 ((pc, lo, st, w, c, sl)) := by
  unfold klsr at h
  split at h
  · cases h
    exact fun ad H locs ls hat => lv_lushr F.1 F.2.1 hd rfl (g ad H locs ls hat)
  · cases h
theorem k_cmpL (F : kFix p s m args meth cd cc nL own mname D dA A zs ad0) (hd : decode cc pc = .ok (.lcmp, 1)) (h : kcmpL pc lo st w c sl = some k) (g : kGo p l e R s m args below meth cd Q D dA ρ A nL ad0 n0 (k)) : kGo p l e R s m args below meth cd Q D dA ρ A nL ad0 n0 ((pc, lo, st, w, c, sl)) := by
  unfold kcmpL at h
  split at h
  · cases h
    exact fun ad H locs ls hat => W.lcmp F.1 F.2.1 hd (g ad H locs ls hat)
  · cases h
theorem k_i2l (F : kFix p s m args meth cd cc nL own mname D dA A zs ad0) (hd : decode cc pc = .ok (.i2l, 1)) (h : ki2l pc lo st w c sl = some k) (g : kGo p l e R s m args below meth cd Q D dA ρ A nL ad0 n0 (k)) : kGo p l e R s m args below meth cd Q D dA ρ A nL ad0 n0 ((pc, lo, st, w, c, sl)) := by
  unfold ki2l at h
  split at h
  · cases h
    exact fun ad H locs ls hat => lv_i2l F.1 F.2.1 hd rfl (g ad H locs ls hat)
  · cases h
theorem k_l2i (F : kFix p s m args meth cd cc nL own mname D dA A zs ad0) (hd : decode cc pc = .ok (.l2i, 1)) (h : kl2i pc lo st w c sl = some k) (g : kGo p l e R s m args below meth cd Q D dA ρ A nL ad0 n0 (k)) : kGo p l e R s m args below meth cd Q D dA ρ A nL ad0 n0 ((pc, lo, st, w, c, sl)) := by
  unfold kl2i at h
  split at h
  · cases h
    exact fun ad H locs ls hat => lv_l2i F.1 F.2.1 hd rfl (g ad H locs ls hat)
  · cases h
theorem k_rem (F : kFix p s m args meth cd cc nL own mname D dA A zs ad0) (hd : decode cc pc = .ok (.irem, 1)) (h : krem pc lo st w c sl = some k) (g : kGo p l e R s m args below meth cd Q D dA ρ A nL ad0 n0 (k)) : kGo p l e R s m args below meth cd Q D dA ρ A nL ad0 n0 ((pc, lo, st, w, c, sl)) := by
  unfold krem at h
  split at h
  · rename_i y x rest
    cases hb : decide (y = 0) with
    | true => rw [hb] at h; cases h
    | false =>
      rw [hb] at h
      cases h
      exact fun ad H locs ls hat => lv_irem F.1 F.2.1 hd (of_decide_eq_false hb) (g ad H locs ls hat)
  · cases h
theorem k_lk (F : kFix p s m args meth cd cc nL own mname D dA A zs ad0) {dflt : Int} {ps : Array (Int × Int)} {len : Nat} (hd : decode cc pc = .ok (.lookupswitch dflt ps, len)) (hp : (ps.toList.zip (ps.toList.drop 1)).all (fun (a, next) => a.1 < next.1) = true) (h : klk dflt ps.toList pc lo st w c sl = some k) (g : kGo p l e R s m args below meth cd Q D dA ρ A nL ad0 n0 (k)) : kGo p l e R s m args below meth cd Q D dA ρ A nL ad0 n0 ((pc, lo, st, w, c, sl)) := by
  unfold klk at h
  split at h
  · split at h
    · rename_i t ht
      cases h
      exact fun ad H locs ls hat => lv_lookup F.1 F.2.1 hd hp rfl (ktg_ok ht) (g ad H locs ls hat)
    · cases h
  · cases h
theorem k_cald (F : kFix p s m args meth cd cc nL own mname D dA A zs ad0) (hd : decode cc pc = .ok (.caload, 1)) (h : kald [] 0 (fun t => Nat.beq t 3) pc lo st w c sl = some k) (g : kGo p l e R s m args below meth cd Q D dA ρ A nL ad0 n0 (k)) : kGo p l e R s m args below meth cd Q D dA ρ A nL ad0 n0 ((pc, lo, st, w, c, sl)) := by
  unfold kald at h
  split at h
  · rename_i i v rest
    cases hb : kscr v && kinB i 0 with
    | true =>
      have hb := Bool.and_eq_true_iff.mp hb
      exact absurd (Nat.not_le.mp fun q => kinB_ok hb.2 (Or.inr q)) (Nat.not_lt_zero i.toNatClampNeg)
    | false =>
      rw [hb] at h
      simp only [cond_false] at h
      split at h
      · rename_i a
        split at h
        · rename_i t n l1 d1 hw
          cases ht : Nat.beq t 3 && kinB i n with
          | false => rw [ht] at h; cases h
          | true =>
            rw [ht] at h; cases h
            have ht := Bool.and_eq_true_iff.mp ht
            intro ad H locs ls hat
            obtain ⟨q0, h1, -⟩ := kW_get (dA := dA) (ad := ad) (ρ := ρ) hw
            have g1 := g ad H locs ls hat
            simp only [List.map_cons] at g1
            rw [kofI_ok] at g1
            have e := kb_t ht.1
            subst e
            exact va_cald (ws := kW dA ad ρ w) F.1 F.2.1 F.2.2.2.2.2.1 hat.2.1 q0 3 h1 rfl (kinB_ok ht.2) hd g1
        · cases h
      · cases h
  · cases h
theorem k_cast (F : kFix p s m args meth cd cc nL own mname D dA A zs ad0) (hd : decode cc pc = .ok (.castore, 1)) (h : kast (fun t => Nat.beq t 3) (fun _ a => vp_nar .char a) pc lo st w c sl = some k) (g : kGo p l e R s m args below meth cd Q D dA ρ A nL ad0 n0 (k)) : kGo p l e R s m args below meth cd Q D dA ρ A nL ad0 n0 ((pc, lo, st, w, c, sl)) := by
  unfold kast at h
  split at h
  · rename_i x i a rest
    split at h
    · rename_i t n l1 d1 hw
      cases ht : Nat.beq t 3 && (kinB i n && kisI x) with
      | false => rw [ht] at h; cases h
      | true =>
        rw [ht] at h; cases h
        simp only [Bool.and_eq_true] at ht
        obtain ⟨t1, t2, t3⟩ := ht
        intro ad H locs ls hat
        obtain ⟨q0, h1, h2⟩ := kW_get (dA := dA) (ad := ad) (ρ := ρ) hw
        simp only [List.map_cons]
        rw [kisI_eq t3]
        have e := kb_t t1
        subst e
        refine va_cast (ws := kW dA ad ρ w) F.1 F.2.1 F.2.2.2.2.2.1 hat.2.1 hat.2.2.1 hat.2.2.2.1 q0 3 h1 rfl (kinB_ok t2) hd (k_put h2 ?_ hat g)
        rw [kset_f l1 d1 i.toNatClampNeg (kop1I (fun a => vp_nar .char a) (ktoI x)) (vp_nar .char (kiv ρ x)) (by rw [kop1I_ok, ktoI_ok])]
        rfl
    · cases h
  · cases h
end KROWS9
end
section
/-! More steps that are sound: is it there, the greater, without its sign, long constants, references compared. -/
section KROWS10
variable {p : Program} {l : Launch} {e : Env} {R : Room} {s : State} {m : MethodId} {args : Array Value} {below : List Frame} {meth : Method} {cd : Code} {Q : State → Prop} {D : va_G} {dA : Nat → ClassId} {ρ : Nat → Int32} {A : Nat → Prop} {nL : Nat} {ad0 : Nat → Nat} {n0 : Nat} {cc : ByteArray} {own mname : String} {zs : KZ} {rg : List (Int × Int)}
variable {pc : Nat} {lo : List (Nat × KV)} {st : List KV} {w : KW} {c sl : Nat} {k : KF} {Rc Rs : Nat}
theorem k_ifnn (F : kFix p s m args meth cd cc nL own mname D dA A zs ad0) {off : Int} (hd : decode cc pc = .ok (.ifnonnull off, 3)) (h : kifnn off pc lo st w c sl = some k) (g : kGo p l e R s m args below meth cd Q D dA ρ A nL ad0 n0 (k)) : kGo p l e R s m args below meth cd Q D dA ρ A nL ad0 n0 ((pc, lo, st, w, c, sl)) := by
  unfold kifnn at h
  split at h
  · rename_i x rest
    split at h
    · rename_i hx
      cases h
      intro ad H locs ls hat
      simp only [List.map_cons]
      rw [krf_eq hx ad]
      exact lv_ifnonnullN F.1 F.2.1 hd (g ad H locs ls hat)
    · rename_i i hx
      split at h
      · rename_i t ht
        cases h
        intro ad H locs ls hat
        simp only [List.map_cons]
        rw [krf_eq hx ad]
        exact lv_ifnonnull F.1 F.2.1 hd (ktg_ok ht) (g ad H locs ls hat)
      · cases h
    · cases h
  · cases h
theorem k_max (F : kFix p s m args meth cd cc nL own mname D dA A zs ad0) (hRc : Rc ≤ R.cells) (hRs : Rs ≤ R.slots) (hf : 1 ≤ R.frames) (hl : 40 ≤ R.locals) {i : Nat} (h1 : Cond.methodLink own i Lib.Math.max.name ∈ LT) (h2 : Cond.static Lib.Math.max.name ∈ LT) (h3 : Cond.initialized "java/lang/Math" ∈ LT) (h4 : Cond.code Lib.Math.max.name Lib.Math.max.code 2 (some .int) ∈ LT) (hd : decode cc pc = .ok (.invokestatic i, 3)) (h : kmax rg Rc Rs pc lo st w c sl = some k) (g : kGo p l e R s m args below meth cd Q D dA ρ A nL ad0 n0 (k)) : kGo p l e R s m args below meth cd Q D dA ρ A nL ad0 n0 ((pc, lo, st, w, c, sl)) := by
  unfold kmax at h
  split at h
  · rename_i y x rest
    obtain ⟨hc, h⟩ := kcond_inv h
    cases h
    simp only [Bool.and_eq_true] at hc
    obtain ⟨c3, c4, c5⟩ := hc
    have c3 := Nat.ble_eq.mp c3
    have c4 := Nat.ble_eq.mp c4
    have c5 := Nat.ble_eq.mp c5
    have hts := F.2.2.2.2.1
    intro ad H locs ls hat
    exact va_mmax F.1 F.2.1 (F.2.2.1.trans hat.1.1.symm) F.2.2.2.1 (hts _ h1) (hts _ h2) (hts _ h3) (hts _ h4) hf (by rw [kcats_eq]; omega) (Nat.le_trans c3 hRc) (Nat.le_trans c4 hRs) hd (g ad H locs ls hat)
  · cases h
theorem k_abs (F : kFix p s m args meth cd cc nL own mname D dA A zs ad0) (hRc : Rc ≤ R.cells) (hRs : Rs ≤ R.slots) (hf : 1 ≤ R.frames) (hl : 40 ≤ R.locals) {i : Nat} (h1 : Cond.methodLink own i Lib.Math.abs.name ∈ LT) (h2 : Cond.static Lib.Math.abs.name ∈ LT) (h3 : Cond.initialized "java/lang/Math" ∈ LT) (h4 : Cond.code Lib.Math.abs.name Lib.Math.abs.code 1 (some .int) ∈ LT) (hd : decode cc pc = .ok (.invokestatic i, 3)) (h : kabs Rc Rs pc lo st w c sl = some k) (g : kGo p l e R s m args below meth cd Q D dA ρ A nL ad0 n0 (k)) : kGo p l e R s m args below meth cd Q D dA ρ A nL ad0 n0 ((pc, lo, st, w, c, sl)) := by
  unfold kabs at h
  split at h
  · rename_i x rest
    obtain ⟨hc, h⟩ := kcond_inv h
    cases h
    simp only [Bool.and_eq_true] at hc
    obtain ⟨c3, c4, c5⟩ := hc
    have c3 := Nat.ble_eq.mp c3
    have c4 := Nat.ble_eq.mp c4
    have c5 := Nat.ble_eq.mp c5
    have hts := F.2.2.2.2.1
    intro ad H locs ls hat
    exact va_mabs F.1 F.2.1 (F.2.2.1.trans hat.1.1.symm) F.2.2.2.1 (hts _ h1) (hts _ h2) (hts _ h3) (hts _ h4) hf (by rw [kcats_eq]; omega) (Nat.le_trans c3 hRc) (Nat.le_trans c4 hRs) hd (g ad H locs ls hat)
  · cases h
theorem k_ldc2 (F : kFix p s m args meth cd cc nL own mname D dA A zs ad0) {i : Nat} {v : Int64} (h1 : Cond.constantLong own i v ∈ LT) (hd : decode cc pc = .ok (.ldc2_w i, 3)) (h : some (pc + 3, lo, (Sum.inl (Value.long v) : KV) :: st, w, c, sl) = some k) (g : kGo p l e R s m args below meth cd Q D dA ρ A nL ad0 n0 (k)) : kGo p l e R s m args below meth cd Q D dA ρ A nL ad0 n0 ((pc, lo, st, w, c, sl)) := by
  cases h
  exact fun ad H locs ls hat => lv_ldc2 F.1 F.2.1 F.2.2.2.1 (F.2.2.2.2.1 _ h1) hd (g ad H locs ls hat)
theorem kxreq_ok {er : Nat → Nat → Bool} (hE : ∀ i j, 1000000 ≤ i → 1000000 ≤ j → (er i j = true ↔ ad0 i = ad0 j)) {a b : KV} {r : Bool} (h : kxreq er a b = some r) : ∃ oa ob, krf a = some oa ∧ krf b = some ob ∧ ∀ ad : Nat → Nat, (∀ i, 1000000 ≤ i → ad i = ad0 i) → (r = true ↔ oa.map ad = ob.map ad) := by
  unfold kxreq at h
  split at h
  · rename_i h1 h2
    cases h
    exact ⟨_, _, h1, h2, fun ad _ => ⟨fun _ => rfl, fun _ => rfl⟩⟩
  · rename_i j h1 h2
    cases h
    exact ⟨_, _, h1, h2, fun ad _ => ⟨fun q => absurd q Bool.false_ne_true, fun q => by cases q⟩⟩
  · rename_i j h1 h2
    cases h
    exact ⟨_, _, h1, h2, fun ad _ => ⟨fun q => absurd q Bool.false_ne_true, fun q => by cases q⟩⟩
  · rename_i i j h1 h2
    cases q : Nat.beq i j with
    | false =>
      rw [q] at h
      simp only [cond_false] at h
      obtain ⟨h3, h⟩ := kcond_inv h
      cases h
      have h3 := Bool.and_eq_true_iff.mp h3
      have hi := Nat.ble_eq.mp h3.1
      have hj := Nat.ble_eq.mp h3.2
      refine ⟨_, _, h1, h2, fun ad had => ?_⟩
      rw [hE i j hi hj]
      show ad0 i = ad0 j ↔ some (ad i) = some (ad j)
      rw [had i hi, had j hj]
      exact ⟨fun z => by rw [z], fun z => Option.some.inj z⟩
    | true =>
      rw [q] at h; cases h
      have e := kb_t q
      subst e
      exact ⟨_, _, h1, h2, fun ad _ => ⟨fun _ => rfl, fun _ => rfl⟩⟩
  · cases h
theorem k_xacmp (F : kFix p s m args meth cd cc nL own mname D dA A zs ad0) {er : Nat → Nat → Bool} (hE : ∀ i j, 1000000 ≤ i → 1000000 ≤ j → (er i j = true ↔ ad0 i = ad0 j)) {cnd : Jvm.ClassFile.ACond} {off : Int} (hd : decode cc pc = .ok (.if_acmp cnd off, 3)) (h : kxacmp er cnd off pc lo st w c sl = some k) (g : kGo p l e R s m args below meth cd Q D dA ρ A nL ad0 n0 (k)) : kGo p l e R s m args below meth cd Q D dA ρ A nL ad0 n0 ((pc, lo, st, w, c, sl)) := by
  unfold kxacmp at h
  split at h
  · rename_i y x rest
    intro ad H locs ls hat
    have hx : ∀ i, 1000000 ≤ i → ad i = ad0 i := fun i hi => hat.2.2.2.2.2 i (Or.inr hi)
    cases cnd with
    | eq =>
      dsimp only at h
      unfold kbr at h
      split at h
      · rename_i t ht
        split at h
        · rename_i b hb
          obtain ⟨ox, oy, h1, h2, h3⟩ := kxreq_ok hE hb
          have h3 := h3 ad hx
          simp only [List.map_cons]
          rw [krf_eq h1 ad, krf_eq h2 ad]
          cases b with
          | true => cases h; exact lv_acmp_eq F.1 F.2.1 hd (ktg_ok ht) (fun _ => g ad H locs ls hat) (fun q => absurd (h3.mp rfl) q)
          | false => cases h; exact lv_acmp_eq F.1 F.2.1 hd (ktg_ok ht) (fun q => absurd (h3.mpr q) Bool.false_ne_true) (fun _ => g ad H locs ls hat)
        · cases h
      · cases h
    | ne =>
      dsimp only at h
      cases hb : kxreq er x y with
      | none =>
        rw [hb] at h
        unfold kbr at h
        split at h <;> cases h
      | some b =>
        rw [hb] at h
        unfold kbr at h
        split at h
        · rename_i t ht
          obtain ⟨ox, oy, h1, h2, h3⟩ := kxreq_ok hE hb
          have h3 := h3 ad hx
          simp only [List.map_cons]
          rw [krf_eq h1 ad, krf_eq h2 ad]
          cases b with
          | true => cases h; exact lv_acmp_ne F.1 F.2.1 hd (ktg_ok ht) (fun q => absurd (h3.mp rfl) q) (fun _ => g ad H locs ls hat)
          | false => cases h; exact lv_acmp_ne F.1 F.2.1 hd (ktg_ok ht) (fun _ => g ad H locs ls hat) (fun q => absurd (h3.mpr q) Bool.false_ne_true)
        · cases h
  · cases h
end KROWS10
end
