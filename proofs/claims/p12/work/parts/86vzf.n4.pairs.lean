/-! THE CALLS IN PAIRS: the class's and the reference's, from one call to the next -/
def lz_0 (k : Nat) (i : Int) : Prop := k = 114 ∧ i = 0
def lz_1 (k : Nat) (i : Int) : Prop := k = 1 ∧ i = 1
def lz_c1 (k : Nat) (i : Int) : Prop := k = 4 ∨ k = 6 ∨ (k = 1 ∧ i = 1)
def lz_c2 (k : Nat) (i : Int) : Prop := k = 116 ∨ k = 117 ∨ (k = 114 ∧ (i = 0 ∨ i = 2 ∨ i = 3 ∨ i = 4))
def lz_e1 (k : Nat) (i : Int) : Prop := k = 6
def lz_e2 (k : Nat) (i : Int) : Prop := k = 117 ∨ (k = 114 ∧ i = 0)
def lz_s1 (k : Nat) (i : Int) : Prop := k = 5 ∨ k = 8 ∨ k = 9 ∨ k = 10
def lz_s2 (k : Nat) (i : Int) : Prop := k = 116 ∨ k = 141 ∨ k = 142 ∨ (k = 114 ∧ i = 0)
def lz_n1 (k : Nat) (i : Int) : Prop := k = 8 ∨ k = 9 ∨ k = 10 ∨ (k = 1 ∧ i = 1) ∨ (k = 0 ∧ i = 13)
def lz_n2 (k : Nat) (i : Int) : Prop := k = 141 ∨ k = 142 ∨ (k = 114 ∧ (i = 0 ∨ i = 2 ∨ i = 3 ∨ i = 4 ∨ i = 47))
def lz_b1 (k : Nat) (i : Int) : Prop := k = 1 ∨ (k = 0 ∧ (i = 8 ∨ i = 9)) ∨ (90 ≤ k ∧ k ≤ 95)
def lz_j1 (k : Nat) (i : Int) : Prop := (k = 0 ∧ (i = 10 ∨ i = 11)) ∨ k = 1 ∨ (96 ≤ k ∧ k ≤ 113) ∨ (46 ≤ k ∧ k ≤ 54)
def lz_j2 (k : Nat) (i : Int) : Prop := (k = 114 ∧ i ≤ 14) ∨ (151 ≤ k ∧ k ≤ 160)
def lz_k1 (k : Nat) (i : Int) : Prop := (64 ≤ k ∧ k ≤ 87) ∨ (90 ≤ k ∧ k ≤ 95) ∨ (k = 56 ∧ i = 1)
def lz_k2 (k : Nat) (i : Int) : Prop := (k = 114 ∧ i = 0) ∨ k = 118 ∨ k = 119 ∨ k = 120 ∨ k = 122
def lz_m1 (k : Nat) (i : Int) : Prop := (k = 46 ∧ i ≠ 1) ∨ k = 53 ∨ k = 54 ∨ (90 ≤ k ∧ k ≤ 95)
def lz_ck (k : Nat) (i : Int) : Prop := (16 ≤ k ∧ k ≤ 28) ∨ (35 ≤ k ∧ k ≤ 39) ∨ (k = 40 ∧ i = 1) ∨ k = 41 ∨ k = 55 ∨ (k = 3 ∧ i = 4) ∨ k = 7
def lz_sm (k : Nat) (i : Int) : Prop := (k = 114 ∧ (i = 0 ∨ (41 ≤ i ∧ i ≤ 43) ∨ (79 ≤ i ∧ i ≤ 81) ∨ (84 ≤ i ∧ i ≤ 86))) ∨ k = 123 ∨ (161 ≤ k ∧ k ≤ 170) ∨ mr_t k i
theorem dj_lg_tc_lz_1 {k : Nat} {i : Int} (z : lg_tc k i) : ¬ lz_1 k i := by
  unfold lg_tc at z
  unfold lz_1
  omega
theorem dj_lg_j_lz_1 {k : Nat} {i : Int} (z : lg_j k i) : ¬ lz_1 k i := by
  unfold lg_j at z
  unfold lz_1
  omega
theorem dj_lg_bc_lz_1 {k : Nat} {i : Int} (z : lg_bc k i) : ¬ lz_1 k i := by
  unfold lg_bc at z
  unfold lz_1
  omega
theorem dj_lg_xc_lz_1 {k : Nat} {i : Int} (z : lg_xc k i) : ¬ lz_1 k i := by
  unfold lg_xc at z
  unfold lz_1
  omega
theorem dj_lg_uc_lz_1 {k : Nat} {i : Int} (z : lg_uc k i) : ¬ lz_1 k i := by
  unfold lg_uc mr_s at z
  unfold lz_1
  omega
theorem dj_lg_nc_lz_1 {k : Nat} {i : Int} (z : lg_nc k i) : ¬ lz_1 k i := by
  unfold lg_nc at z
  unfold lz_1
  omega
theorem dj_lg_al2_lz_1 {k : Nat} {i : Int} (z : lg_al2 k i) : ¬ lz_1 k i := z.el dj_lg_tc_lz_1 dj_lg_j_lz_1 dj_lg_bc_lz_1 dj_lg_xc_lz_1 dj_lg_uc_lz_1 dj_lg_nc_lz_1
theorem dj_lg_sc_lz_1 {k : Nat} {i : Int} (z : lg_sc k i) : ¬ lz_1 k i := by
  unfold lg_sc at z
  unfold lz_1
  omega
theorem dj_lg_all_lz_1 {k : Nat} {i : Int} (z : lg_all k i) : ¬ lz_1 k i := z.elim dj_lg_al2_lz_1 dj_lg_sc_lz_1
theorem dj_lg_tc_fq_t {k : Nat} {i : Int} (z : lg_tc k i) : ¬ fq_t k i := by
  unfold lg_tc at z
  unfold fq_t
  omega
theorem dj_lg_j_fq_t {k : Nat} {i : Int} (z : lg_j k i) : ¬ fq_t k i := by
  unfold lg_j at z
  unfold fq_t
  omega
theorem dj_lg_bc_fq_t {k : Nat} {i : Int} (z : lg_bc k i) : ¬ fq_t k i := by
  unfold lg_bc at z
  unfold fq_t
  omega
theorem dj_lg_xc_fq_t {k : Nat} {i : Int} (z : lg_xc k i) : ¬ fq_t k i := by
  unfold lg_xc at z
  unfold fq_t
  omega
theorem dj_lg_uc_fq_t {k : Nat} {i : Int} (z : lg_uc k i) : ¬ fq_t k i := by
  unfold lg_uc mr_s at z
  unfold fq_t
  omega
theorem dj_lg_nc_fq_t {k : Nat} {i : Int} (z : lg_nc k i) : ¬ fq_t k i := by
  unfold lg_nc at z
  unfold fq_t
  omega
theorem dj_lg_al2_fq_t {k : Nat} {i : Int} (z : lg_al2 k i) : ¬ fq_t k i := z.el dj_lg_tc_fq_t dj_lg_j_fq_t dj_lg_bc_fq_t dj_lg_xc_fq_t dj_lg_uc_fq_t dj_lg_nc_fq_t
theorem dj_lg_sc_fq_t {k : Nat} {i : Int} (z : lg_sc k i) : ¬ fq_t k i := by
  unfold lg_sc at z
  unfold fq_t
  omega
theorem dj_lg_all_fq_t {k : Nat} {i : Int} (z : lg_all k i) : ¬ fq_t k i := z.elim dj_lg_al2_fq_t dj_lg_sc_fq_t
theorem dj_lg_tc_lz_0 {k : Nat} {i : Int} (z : lg_tc k i) : ¬ lz_0 k i := by
  unfold lg_tc at z
  unfold lz_0
  omega
theorem dj_lg_j_lz_0 {k : Nat} {i : Int} (z : lg_j k i) : ¬ lz_0 k i := by
  unfold lg_j at z
  unfold lz_0
  omega
theorem dj_lg_bc_lz_0 {k : Nat} {i : Int} (z : lg_bc k i) : ¬ lz_0 k i := by
  unfold lg_bc at z
  unfold lz_0
  omega
theorem dj_lg_xc_lz_0 {k : Nat} {i : Int} (z : lg_xc k i) : ¬ lz_0 k i := by
  unfold lg_xc at z
  unfold lz_0
  omega
theorem dj_lg_uc_lz_0 {k : Nat} {i : Int} (z : lg_uc k i) : ¬ lz_0 k i := by
  unfold lg_uc mr_s at z
  unfold lz_0
  omega
theorem dj_lg_nc_lz_0 {k : Nat} {i : Int} (z : lg_nc k i) : ¬ lz_0 k i := by
  unfold lg_nc at z
  unfold lz_0
  omega
theorem dj_lg_al2_lz_0 {k : Nat} {i : Int} (z : lg_al2 k i) : ¬ lz_0 k i := z.el dj_lg_tc_lz_0 dj_lg_j_lz_0 dj_lg_bc_lz_0 dj_lg_xc_lz_0 dj_lg_uc_lz_0 dj_lg_nc_lz_0
theorem dj_lg_sc_lz_0 {k : Nat} {i : Int} (z : lg_sc k i) : ¬ lz_0 k i := by
  unfold lg_sc at z
  unfold lz_0
  omega
theorem dj_lg_all_lz_0 {k : Nat} {i : Int} (z : lg_all k i) : ¬ lz_0 k i := z.elim dj_lg_al2_lz_0 dj_lg_sc_lz_0
theorem dj_lg_tc_fc_t {k : Nat} {i : Int} (z : lg_tc k i) : ¬ fc_t k i := by
  unfold lg_tc at z
  unfold fc_t
  omega
theorem dj_lg_j_fc_t {k : Nat} {i : Int} (z : lg_j k i) : ¬ fc_t k i := by
  unfold lg_j at z
  unfold fc_t
  omega
theorem dj_lg_bc_fc_t {k : Nat} {i : Int} (z : lg_bc k i) : ¬ fc_t k i := by
  unfold lg_bc at z
  unfold fc_t
  omega
theorem dj_lg_xc_fc_t {k : Nat} {i : Int} (z : lg_xc k i) : ¬ fc_t k i := by
  unfold lg_xc at z
  unfold fc_t
  omega
theorem dj_lg_uc_fc_t {k : Nat} {i : Int} (z : lg_uc k i) : ¬ fc_t k i := by
  unfold lg_uc mr_s at z
  unfold fc_t
  omega
theorem dj_lg_nc_fc_t {k : Nat} {i : Int} (z : lg_nc k i) : ¬ fc_t k i := by
  unfold lg_nc at z
  unfold fc_t
  omega
theorem dj_lg_al2_fc_t {k : Nat} {i : Int} (z : lg_al2 k i) : ¬ fc_t k i := z.el dj_lg_tc_fc_t dj_lg_j_fc_t dj_lg_bc_fc_t dj_lg_xc_fc_t dj_lg_uc_fc_t dj_lg_nc_fc_t
theorem dj_lg_sc_fc_t {k : Nat} {i : Int} (z : lg_sc k i) : ¬ fc_t k i := by
  unfold lg_sc at z
  unfold fc_t
  omega
theorem dj_lg_all_fc_t {k : Nat} {i : Int} (z : lg_all k i) : ¬ fc_t k i := z.elim dj_lg_al2_fc_t dj_lg_sc_fc_t
theorem dj_lg_tc_fd_t {k : Nat} {i : Int} (z : lg_tc k i) : ¬ fd_t k i := by
  unfold lg_tc at z
  unfold fd_t
  omega
theorem dj_lg_j_fd_t {k : Nat} {i : Int} (z : lg_j k i) : ¬ fd_t k i := by
  unfold lg_j at z
  unfold fd_t
  omega
theorem dj_lg_bc_fd_t {k : Nat} {i : Int} (z : lg_bc k i) : ¬ fd_t k i := by
  unfold lg_bc at z
  unfold fd_t
  omega
theorem dj_lg_xc_fd_t {k : Nat} {i : Int} (z : lg_xc k i) : ¬ fd_t k i := by
  unfold lg_xc at z
  unfold fd_t
  omega
theorem dj_lg_uc_fd_t {k : Nat} {i : Int} (z : lg_uc k i) : ¬ fd_t k i := by
  unfold lg_uc mr_s at z
  unfold fd_t
  omega
theorem dj_lg_nc_fd_t {k : Nat} {i : Int} (z : lg_nc k i) : ¬ fd_t k i := by
  unfold lg_nc at z
  unfold fd_t
  omega
theorem dj_lg_al2_fd_t {k : Nat} {i : Int} (z : lg_al2 k i) : ¬ fd_t k i := z.el dj_lg_tc_fd_t dj_lg_j_fd_t dj_lg_bc_fd_t dj_lg_xc_fd_t dj_lg_uc_fd_t dj_lg_nc_fd_t
theorem dj_lg_sc_fd_t {k : Nat} {i : Int} (z : lg_sc k i) : ¬ fd_t k i := by
  unfold lg_sc at z
  unfold fd_t
  omega
theorem dj_lg_all_fd_t {k : Nat} {i : Int} (z : lg_all k i) : ¬ fd_t k i := z.elim dj_lg_al2_fd_t dj_lg_sc_fd_t
theorem dj_lg_tc_fe_t {k : Nat} {i : Int} (z : lg_tc k i) : ¬ fe_t k i := by
  unfold lg_tc at z
  unfold fe_t
  omega
theorem dj_lg_j_fe_t {k : Nat} {i : Int} (z : lg_j k i) : ¬ fe_t k i := by
  unfold lg_j at z
  unfold fe_t
  omega
theorem dj_lg_bc_fe_t {k : Nat} {i : Int} (z : lg_bc k i) : ¬ fe_t k i := by
  unfold lg_bc at z
  unfold fe_t
  omega
theorem dj_lg_xc_fe_t {k : Nat} {i : Int} (z : lg_xc k i) : ¬ fe_t k i := by
  unfold lg_xc at z
  unfold fe_t
  omega
theorem dj_lg_uc_fe_t {k : Nat} {i : Int} (z : lg_uc k i) : ¬ fe_t k i := by
  unfold lg_uc mr_s at z
  unfold fe_t
  omega
theorem dj_lg_nc_fe_t {k : Nat} {i : Int} (z : lg_nc k i) : ¬ fe_t k i := by
  unfold lg_nc at z
  unfold fe_t
  omega
theorem dj_lg_al2_fe_t {k : Nat} {i : Int} (z : lg_al2 k i) : ¬ fe_t k i := z.el dj_lg_tc_fe_t dj_lg_j_fe_t dj_lg_bc_fe_t dj_lg_xc_fe_t dj_lg_uc_fe_t dj_lg_nc_fe_t
theorem dj_lg_sc_fe_t {k : Nat} {i : Int} (z : lg_sc k i) : ¬ fe_t k i := by
  unfold lg_sc at z
  unfold fe_t
  omega
theorem dj_lg_all_fe_t {k : Nat} {i : Int} (z : lg_all k i) : ¬ fe_t k i := z.elim dj_lg_al2_fe_t dj_lg_sc_fe_t
theorem dj_lg_tc_fv_t {k : Nat} {i : Int} (z : lg_tc k i) : ¬ fv_t k i := by
  unfold lg_tc at z
  unfold fv_t
  omega
theorem dj_lg_j_fv_t {k : Nat} {i : Int} (z : lg_j k i) : ¬ fv_t k i := by
  unfold lg_j at z
  unfold fv_t
  omega
theorem dj_lg_bc_fv_t {k : Nat} {i : Int} (z : lg_bc k i) : ¬ fv_t k i := by
  unfold lg_bc at z
  unfold fv_t
  omega
theorem dj_lg_xc_fv_t {k : Nat} {i : Int} (z : lg_xc k i) : ¬ fv_t k i := by
  unfold lg_xc at z
  unfold fv_t
  omega
theorem dj_lg_uc_fv_t {k : Nat} {i : Int} (z : lg_uc k i) : ¬ fv_t k i := by
  unfold lg_uc mr_s at z
  unfold fv_t
  omega
theorem dj_lg_nc_fv_t {k : Nat} {i : Int} (z : lg_nc k i) : ¬ fv_t k i := by
  unfold lg_nc at z
  unfold fv_t
  omega
theorem dj_lg_al2_fv_t {k : Nat} {i : Int} (z : lg_al2 k i) : ¬ fv_t k i := z.el dj_lg_tc_fv_t dj_lg_j_fv_t dj_lg_bc_fv_t dj_lg_xc_fv_t dj_lg_uc_fv_t dj_lg_nc_fv_t
theorem dj_lg_sc_fv_t {k : Nat} {i : Int} (z : lg_sc k i) : ¬ fv_t k i := by
  unfold lg_sc at z
  unfold fv_t
  omega
theorem dj_lg_all_fv_t {k : Nat} {i : Int} (z : lg_all k i) : ¬ fv_t k i := z.elim dj_lg_al2_fv_t dj_lg_sc_fv_t
theorem dj_lg_tc_fw_t {k : Nat} {i : Int} (z : lg_tc k i) : ¬ fw_t k i := by
  unfold lg_tc at z
  unfold fw_t
  omega
theorem dj_lg_j_fw_t {k : Nat} {i : Int} (z : lg_j k i) : ¬ fw_t k i := by
  unfold lg_j at z
  unfold fw_t
  omega
theorem dj_lg_bc_fw_t {k : Nat} {i : Int} (z : lg_bc k i) : ¬ fw_t k i := by
  unfold lg_bc at z
  unfold fw_t
  omega
theorem dj_lg_xc_fw_t {k : Nat} {i : Int} (z : lg_xc k i) : ¬ fw_t k i := by
  unfold lg_xc at z
  unfold fw_t
  omega
theorem dj_lg_uc_fw_t {k : Nat} {i : Int} (z : lg_uc k i) : ¬ fw_t k i := by
  unfold lg_uc mr_s at z
  unfold fw_t
  omega
theorem dj_lg_nc_fw_t {k : Nat} {i : Int} (z : lg_nc k i) : ¬ fw_t k i := by
  unfold lg_nc at z
  unfold fw_t
  omega
theorem dj_lg_al2_fw_t {k : Nat} {i : Int} (z : lg_al2 k i) : ¬ fw_t k i := z.el dj_lg_tc_fw_t dj_lg_j_fw_t dj_lg_bc_fw_t dj_lg_xc_fw_t dj_lg_uc_fw_t dj_lg_nc_fw_t
theorem dj_lg_sc_fw_t {k : Nat} {i : Int} (z : lg_sc k i) : ¬ fw_t k i := by
  unfold lg_sc at z
  unfold fw_t
  omega
theorem dj_lg_all_fw_t {k : Nat} {i : Int} (z : lg_all k i) : ¬ fw_t k i := z.elim dj_lg_al2_fw_t dj_lg_sc_fw_t
theorem dj_lg_tc_lz_c1 {k : Nat} {i : Int} (z : lg_tc k i) : ¬ lz_c1 k i := by
  unfold lg_tc at z
  unfold lz_c1
  omega
theorem dj_lg_tc_lz_c2 {k : Nat} {i : Int} (z : lg_tc k i) : ¬ lz_c2 k i := by
  unfold lg_tc at z
  unfold lz_c2
  omega
theorem dj_lg_j_lz_c1 {k : Nat} {i : Int} (z : lg_j k i) : ¬ lz_c1 k i := by
  unfold lg_j at z
  unfold lz_c1
  omega
theorem dj_lg_j_lz_c2 {k : Nat} {i : Int} (z : lg_j k i) : ¬ lz_c2 k i := by
  unfold lg_j at z
  unfold lz_c2
  omega
theorem dj_lg_bc_lz_c1 {k : Nat} {i : Int} (z : lg_bc k i) : ¬ lz_c1 k i := by
  unfold lg_bc at z
  unfold lz_c1
  omega
theorem dj_lg_bc_lz_c2 {k : Nat} {i : Int} (z : lg_bc k i) : ¬ lz_c2 k i := by
  unfold lg_bc at z
  unfold lz_c2
  omega
theorem dj_lg_uc_lz_c1 {k : Nat} {i : Int} (z : lg_uc k i) : ¬ lz_c1 k i := by
  unfold lg_uc mr_s at z
  unfold lz_c1
  omega
theorem dj_lg_uc_lz_c2 {k : Nat} {i : Int} (z : lg_uc k i) : ¬ lz_c2 k i := by
  unfold lg_uc mr_s at z
  unfold lz_c2
  omega
theorem dj_lg_sc_lz_c1 {k : Nat} {i : Int} (z : lg_sc k i) : ¬ lz_c1 k i := by
  unfold lg_sc at z
  unfold lz_c1
  omega
theorem dj_lg_sc_lz_c2 {k : Nat} {i : Int} (z : lg_sc k i) : ¬ lz_c2 k i := by
  unfold lg_sc at z
  unfold lz_c2
  omega
theorem dj_lg_nc_lz_c1 {k : Nat} {i : Int} (z : lg_nc k i) : ¬ lz_c1 k i := by
  unfold lg_nc at z
  unfold lz_c1
  omega
theorem dj_lg_nc_lz_c2 {k : Nat} {i : Int} (z : lg_nc k i) : ¬ lz_c2 k i := by
  unfold lg_nc at z
  unfold lz_c2
  omega
theorem dj_lg_tc_lz_e1 {k : Nat} {i : Int} (z : lg_tc k i) : ¬ lz_e1 k i := by
  unfold lg_tc at z
  unfold lz_e1
  omega
theorem dj_lg_tc_lz_e2 {k : Nat} {i : Int} (z : lg_tc k i) : ¬ lz_e2 k i := by
  unfold lg_tc at z
  unfold lz_e2
  omega
theorem dj_lg_j_lz_e1 {k : Nat} {i : Int} (z : lg_j k i) : ¬ lz_e1 k i := by
  unfold lg_j at z
  unfold lz_e1
  omega
theorem dj_lg_j_lz_e2 {k : Nat} {i : Int} (z : lg_j k i) : ¬ lz_e2 k i := by
  unfold lg_j at z
  unfold lz_e2
  omega
theorem dj_lg_bc_lz_e1 {k : Nat} {i : Int} (z : lg_bc k i) : ¬ lz_e1 k i := by
  unfold lg_bc at z
  unfold lz_e1
  omega
theorem dj_lg_bc_lz_e2 {k : Nat} {i : Int} (z : lg_bc k i) : ¬ lz_e2 k i := by
  unfold lg_bc at z
  unfold lz_e2
  omega
theorem dj_lg_uc_lz_e1 {k : Nat} {i : Int} (z : lg_uc k i) : ¬ lz_e1 k i := by
  unfold lg_uc mr_s at z
  unfold lz_e1
  omega
theorem dj_lg_uc_lz_e2 {k : Nat} {i : Int} (z : lg_uc k i) : ¬ lz_e2 k i := by
  unfold lg_uc mr_s at z
  unfold lz_e2
  omega
theorem dj_lg_sc_lz_e1 {k : Nat} {i : Int} (z : lg_sc k i) : ¬ lz_e1 k i := by
  unfold lg_sc at z
  unfold lz_e1
  omega
theorem dj_lg_sc_lz_e2 {k : Nat} {i : Int} (z : lg_sc k i) : ¬ lz_e2 k i := by
  unfold lg_sc at z
  unfold lz_e2
  omega
theorem dj_lg_nc_lz_e1 {k : Nat} {i : Int} (z : lg_nc k i) : ¬ lz_e1 k i := by
  unfold lg_nc at z
  unfold lz_e1
  omega
theorem dj_lg_nc_lz_e2 {k : Nat} {i : Int} (z : lg_nc k i) : ¬ lz_e2 k i := by
  unfold lg_nc at z
  unfold lz_e2
  omega
theorem dj_lg_tc_lz_s1 {k : Nat} {i : Int} (z : lg_tc k i) : ¬ lz_s1 k i := by
  unfold lg_tc at z
  unfold lz_s1
  omega
theorem dj_lg_tc_lz_s2 {k : Nat} {i : Int} (z : lg_tc k i) : ¬ lz_s2 k i := by
  unfold lg_tc at z
  unfold lz_s2
  omega
theorem dj_lg_j_lz_s1 {k : Nat} {i : Int} (z : lg_j k i) : ¬ lz_s1 k i := by
  unfold lg_j at z
  unfold lz_s1
  omega
theorem dj_lg_j_lz_s2 {k : Nat} {i : Int} (z : lg_j k i) : ¬ lz_s2 k i := by
  unfold lg_j at z
  unfold lz_s2
  omega
theorem dj_lg_bc_lz_s1 {k : Nat} {i : Int} (z : lg_bc k i) : ¬ lz_s1 k i := by
  unfold lg_bc at z
  unfold lz_s1
  omega
theorem dj_lg_bc_lz_s2 {k : Nat} {i : Int} (z : lg_bc k i) : ¬ lz_s2 k i := by
  unfold lg_bc at z
  unfold lz_s2
  omega
theorem dj_lg_uc_lz_s1 {k : Nat} {i : Int} (z : lg_uc k i) : ¬ lz_s1 k i := by
  unfold lg_uc mr_s at z
  unfold lz_s1
  omega
theorem dj_lg_uc_lz_s2 {k : Nat} {i : Int} (z : lg_uc k i) : ¬ lz_s2 k i := by
  unfold lg_uc mr_s at z
  unfold lz_s2
  omega
theorem dj_lg_sc_lz_s1 {k : Nat} {i : Int} (z : lg_sc k i) : ¬ lz_s1 k i := by
  unfold lg_sc at z
  unfold lz_s1
  omega
theorem dj_lg_sc_lz_s2 {k : Nat} {i : Int} (z : lg_sc k i) : ¬ lz_s2 k i := by
  unfold lg_sc at z
  unfold lz_s2
  omega
theorem dj_lg_nc_lz_s1 {k : Nat} {i : Int} (z : lg_nc k i) : ¬ lz_s1 k i := by
  unfold lg_nc at z
  unfold lz_s1
  omega
theorem dj_lg_nc_lz_s2 {k : Nat} {i : Int} (z : lg_nc k i) : ¬ lz_s2 k i := by
  unfold lg_nc at z
  unfold lz_s2
  omega
theorem dj_lg_tc_cl_t {k : Nat} {i : Int} (z : lg_tc k i) : ¬ cl_t k i := by
  unfold lg_tc at z
  unfold cl_t
  omega
theorem dj_lg_tc_rl_t {k : Nat} {i : Int} (z : lg_tc k i) : ¬ rl_t k i := by
  unfold lg_tc at z
  unfold rl_t mr_s
  omega
theorem dj_lg_j_cl_t {k : Nat} {i : Int} (z : lg_j k i) : ¬ cl_t k i := by
  unfold lg_j at z
  unfold cl_t
  omega
theorem dj_lg_j_rl_t {k : Nat} {i : Int} (z : lg_j k i) : ¬ rl_t k i := by
  unfold lg_j at z
  unfold rl_t mr_s
  omega
theorem dj_lg_bc_cl_t {k : Nat} {i : Int} (z : lg_bc k i) : ¬ cl_t k i := by
  unfold lg_bc at z
  unfold cl_t
  omega
theorem dj_lg_bc_rl_t {k : Nat} {i : Int} (z : lg_bc k i) : ¬ rl_t k i := by
  unfold lg_bc at z
  unfold rl_t mr_s
  omega
theorem dj_lg_sc_rl_t {k : Nat} {i : Int} (z : lg_sc k i) : ¬ rl_t k i := by
  unfold lg_sc at z
  unfold rl_t mr_s
  omega
theorem dj_lg_nc_cl_t {k : Nat} {i : Int} (z : lg_nc k i) : ¬ cl_t k i := by
  unfold lg_nc at z
  unfold cl_t
  omega
theorem dj_lg_nc_rl_t {k : Nat} {i : Int} (z : lg_nc k i) : ¬ rl_t k i := by
  unfold lg_nc at z
  unfold rl_t mr_s
  omega
theorem dj_lg_xc_cm_ti {k : Nat} {i : Int} (z : lg_xc k i) : ¬ cm_ti k i := by
  unfold lg_xc at z
  unfold cm_ti
  omega
theorem dj_lg_xc_rm_fi {k : Nat} {i : Int} (z : lg_xc k i) : ¬ rm_fi k i := by
  unfold lg_xc at z
  unfold rm_fi mr_s
  omega
theorem dj_lg_tc_cm_ti {k : Nat} {i : Int} (z : lg_tc k i) : ¬ cm_ti k i := by
  unfold lg_tc at z
  unfold cm_ti
  omega
theorem dj_lg_tc_rm_fi {k : Nat} {i : Int} (z : lg_tc k i) : ¬ rm_fi k i := by
  unfold lg_tc at z
  unfold rm_fi mr_s
  omega
theorem dj_lg_j_cm_ti {k : Nat} {i : Int} (z : lg_j k i) : ¬ cm_ti k i := by
  unfold lg_j at z
  unfold cm_ti
  omega
theorem dj_lg_j_rm_fi {k : Nat} {i : Int} (z : lg_j k i) : ¬ rm_fi k i := by
  unfold lg_j at z
  unfold rm_fi mr_s
  omega
theorem dj_lg_bc_cm_ti {k : Nat} {i : Int} (z : lg_bc k i) : ¬ cm_ti k i := by
  unfold lg_bc at z
  unfold cm_ti
  omega
theorem dj_lg_bc_rm_fi {k : Nat} {i : Int} (z : lg_bc k i) : ¬ rm_fi k i := by
  unfold lg_bc at z
  unfold rm_fi mr_s
  omega
theorem dj_lg_uc_cm_ti {k : Nat} {i : Int} (z : lg_uc k i) : ¬ cm_ti k i := by
  unfold lg_uc mr_s at z
  unfold cm_ti
  omega
theorem dj_lg_uc_rm_fi {k : Nat} {i : Int} (z : lg_uc k i) : ¬ rm_fi k i := by
  unfold lg_uc mr_s at z
  unfold rm_fi mr_s
  omega
theorem dj_lg_sc_rm_fi {k : Nat} {i : Int} (z : lg_sc k i) : ¬ rm_fi k i := by
  unfold lg_sc at z
  unfold rm_fi mr_s
  omega
theorem dj_lg_nc_cm_ti {k : Nat} {i : Int} (z : lg_nc k i) : ¬ cm_ti k i := by
  unfold lg_nc at z
  unfold cm_ti
  omega
theorem dj_lg_nc_rm_fi {k : Nat} {i : Int} (z : lg_nc k i) : ¬ rm_fi k i := by
  unfold lg_nc at z
  unfold rm_fi mr_s
  omega
theorem dj_lg_xc_cv_t {k : Nat} {i : Int} (z : lg_xc k i) : ¬ cv_t k i := by
  unfold lg_xc at z
  unfold cv_t
  omega
theorem dj_lg_xc_rv_t {k : Nat} {i : Int} (z : lg_xc k i) : ¬ rv_t k i := by
  unfold lg_xc at z
  unfold rv_t mr_s
  omega
theorem dj_lg_tc_cv_t {k : Nat} {i : Int} (z : lg_tc k i) : ¬ cv_t k i := by
  unfold lg_tc at z
  unfold cv_t
  omega
theorem dj_lg_tc_rv_t {k : Nat} {i : Int} (z : lg_tc k i) : ¬ rv_t k i := by
  unfold lg_tc at z
  unfold rv_t mr_s
  omega
theorem dj_lg_j_cv_t {k : Nat} {i : Int} (z : lg_j k i) : ¬ cv_t k i := by
  unfold lg_j at z
  unfold cv_t
  omega
theorem dj_lg_j_rv_t {k : Nat} {i : Int} (z : lg_j k i) : ¬ rv_t k i := by
  unfold lg_j at z
  unfold rv_t mr_s
  omega
theorem dj_lg_bc_cv_t {k : Nat} {i : Int} (z : lg_bc k i) : ¬ cv_t k i := by
  unfold lg_bc at z
  unfold cv_t
  omega
theorem dj_lg_bc_rv_t {k : Nat} {i : Int} (z : lg_bc k i) : ¬ rv_t k i := by
  unfold lg_bc at z
  unfold rv_t mr_s
  omega
theorem dj_lg_uc_cv_t {k : Nat} {i : Int} (z : lg_uc k i) : ¬ cv_t k i := by
  unfold lg_uc mr_s at z
  unfold cv_t
  omega
theorem dj_lg_uc_rv_t {k : Nat} {i : Int} (z : lg_uc k i) : ¬ rv_t k i := by
  unfold lg_uc mr_s at z
  unfold rv_t mr_s
  omega
theorem dj_lg_sc_rv_t {k : Nat} {i : Int} (z : lg_sc k i) : ¬ rv_t k i := by
  unfold lg_sc at z
  unfold rv_t mr_s
  omega
theorem dj_lg_nc_cv_t {k : Nat} {i : Int} (z : lg_nc k i) : ¬ cv_t k i := by
  unfold lg_nc at z
  unfold cv_t
  omega
theorem dj_lg_nc_rv_t {k : Nat} {i : Int} (z : lg_nc k i) : ¬ rv_t k i := by
  unfold lg_nc at z
  unfold rv_t mr_s
  omega
theorem dj_lg_xc_ct_t {k : Nat} {i : Int} (z : lg_xc k i) : ¬ ct_t k i := by
  unfold lg_xc at z
  unfold ct_t
  omega
theorem dj_lg_xc_rt_f {k : Nat} {i : Int} (z : lg_xc k i) : ¬ rt_f k i := by
  unfold lg_xc at z
  unfold rt_f mr_s
  omega
theorem dj_lg_tc_ct_t {k : Nat} {i : Int} (z : lg_tc k i) : ¬ ct_t k i := by
  unfold lg_tc at z
  unfold ct_t
  omega
theorem dj_lg_tc_rt_f {k : Nat} {i : Int} (z : lg_tc k i) : ¬ rt_f k i := by
  unfold lg_tc at z
  unfold rt_f mr_s
  omega
theorem dj_lg_j_ct_t {k : Nat} {i : Int} (z : lg_j k i) : ¬ ct_t k i := by
  unfold lg_j at z
  unfold ct_t
  omega
theorem dj_lg_j_rt_f {k : Nat} {i : Int} (z : lg_j k i) : ¬ rt_f k i := by
  unfold lg_j at z
  unfold rt_f mr_s
  omega
theorem dj_lg_bc_ct_t {k : Nat} {i : Int} (z : lg_bc k i) : ¬ ct_t k i := by
  unfold lg_bc at z
  unfold ct_t
  omega
theorem dj_lg_bc_rt_f {k : Nat} {i : Int} (z : lg_bc k i) : ¬ rt_f k i := by
  unfold lg_bc at z
  unfold rt_f mr_s
  omega
theorem dj_lg_uc_ct_t {k : Nat} {i : Int} (z : lg_uc k i) : ¬ ct_t k i := by
  unfold lg_uc mr_s at z
  unfold ct_t
  omega
theorem dj_lg_uc_rt_f {k : Nat} {i : Int} (z : lg_uc k i) : ¬ rt_f k i := by
  unfold lg_uc mr_s at z
  unfold rt_f mr_s
  omega
theorem dj_lg_sc_rt_f {k : Nat} {i : Int} (z : lg_sc k i) : ¬ rt_f k i := by
  unfold lg_sc at z
  unfold rt_f mr_s
  omega
theorem dj_lg_xc_cm_t {k : Nat} {i : Int} (z : lg_xc k i) : ¬ cm_t k i := by
  unfold lg_xc at z
  unfold cm_t
  omega
theorem dj_lg_xc_rm_f {k : Nat} {i : Int} (z : lg_xc k i) : ¬ rm_f k i := by
  unfold lg_xc at z
  unfold rm_f mr_s
  omega
theorem dj_lg_tc_cm_t {k : Nat} {i : Int} (z : lg_tc k i) : ¬ cm_t k i := by
  unfold lg_tc at z
  unfold cm_t
  omega
theorem dj_lg_tc_rm_f {k : Nat} {i : Int} (z : lg_tc k i) : ¬ rm_f k i := by
  unfold lg_tc at z
  unfold rm_f mr_s
  omega
theorem dj_lg_j_cm_t {k : Nat} {i : Int} (z : lg_j k i) : ¬ cm_t k i := by
  unfold lg_j at z
  unfold cm_t
  omega
theorem dj_lg_j_rm_f {k : Nat} {i : Int} (z : lg_j k i) : ¬ rm_f k i := by
  unfold lg_j at z
  unfold rm_f mr_s
  omega
theorem dj_lg_bc_cm_t {k : Nat} {i : Int} (z : lg_bc k i) : ¬ cm_t k i := by
  unfold lg_bc at z
  unfold cm_t
  omega
theorem dj_lg_bc_rm_f {k : Nat} {i : Int} (z : lg_bc k i) : ¬ rm_f k i := by
  unfold lg_bc at z
  unfold rm_f mr_s
  omega
theorem dj_lg_uc_cm_t {k : Nat} {i : Int} (z : lg_uc k i) : ¬ cm_t k i := by
  unfold lg_uc mr_s at z
  unfold cm_t
  omega
theorem dj_lg_uc_rm_f {k : Nat} {i : Int} (z : lg_uc k i) : ¬ rm_f k i := by
  unfold lg_uc mr_s at z
  unfold rm_f mr_s
  omega
theorem dj_lg_sc_rm_f {k : Nat} {i : Int} (z : lg_sc k i) : ¬ rm_f k i := by
  unfold lg_sc at z
  unfold rm_f mr_s
  omega
theorem dj_lg_xc_lz_n1 {k : Nat} {i : Int} (z : lg_xc k i) : ¬ lz_n1 k i := by
  unfold lg_xc at z
  unfold lz_n1
  omega
theorem dj_lg_xc_lz_n2 {k : Nat} {i : Int} (z : lg_xc k i) : ¬ lz_n2 k i := by
  unfold lg_xc at z
  unfold lz_n2
  omega
theorem dj_lg_tc_lz_n1 {k : Nat} {i : Int} (z : lg_tc k i) : ¬ lz_n1 k i := by
  unfold lg_tc at z
  unfold lz_n1
  omega
theorem dj_lg_tc_lz_n2 {k : Nat} {i : Int} (z : lg_tc k i) : ¬ lz_n2 k i := by
  unfold lg_tc at z
  unfold lz_n2
  omega
theorem dj_lg_j_lz_n1 {k : Nat} {i : Int} (z : lg_j k i) : ¬ lz_n1 k i := by
  unfold lg_j at z
  unfold lz_n1
  omega
theorem dj_lg_j_lz_n2 {k : Nat} {i : Int} (z : lg_j k i) : ¬ lz_n2 k i := by
  unfold lg_j at z
  unfold lz_n2
  omega
theorem dj_lg_bc_lz_n1 {k : Nat} {i : Int} (z : lg_bc k i) : ¬ lz_n1 k i := by
  unfold lg_bc at z
  unfold lz_n1
  omega
theorem dj_lg_bc_lz_n2 {k : Nat} {i : Int} (z : lg_bc k i) : ¬ lz_n2 k i := by
  unfold lg_bc at z
  unfold lz_n2
  omega
theorem dj_lg_uc_lz_n1 {k : Nat} {i : Int} (z : lg_uc k i) : ¬ lz_n1 k i := by
  unfold lg_uc mr_s at z
  unfold lz_n1
  omega
theorem dj_lg_uc_lz_n2 {k : Nat} {i : Int} (z : lg_uc k i) : ¬ lz_n2 k i := by
  unfold lg_uc mr_s at z
  unfold lz_n2
  omega
theorem dj_lg_sc_lz_n1 {k : Nat} {i : Int} (z : lg_sc k i) : ¬ lz_n1 k i := by
  unfold lg_sc at z
  unfold lz_n1
  omega
theorem dj_lg_sc_lz_n2 {k : Nat} {i : Int} (z : lg_sc k i) : ¬ lz_n2 k i := by
  unfold lg_sc at z
  unfold lz_n2
  omega
theorem dj_lg_tc_fj_t {k : Nat} {i : Int} (z : lg_tc k i) : ¬ fj_t k i := by
  unfold lg_tc at z
  unfold fj_t
  omega
theorem dj_lg_j_fj_t {k : Nat} {i : Int} (z : lg_j k i) : ¬ fj_t k i := by
  unfold lg_j at z
  unfold fj_t
  omega
theorem dj_lg_bc_fj_t {k : Nat} {i : Int} (z : lg_bc k i) : ¬ fj_t k i := by
  unfold lg_bc at z
  unfold fj_t
  omega
theorem dj_lg_xc_fj_t {k : Nat} {i : Int} (z : lg_xc k i) : ¬ fj_t k i := by
  unfold lg_xc at z
  unfold fj_t
  omega
theorem dj_lg_uc_fj_t {k : Nat} {i : Int} (z : lg_uc k i) : ¬ fj_t k i := by
  unfold lg_uc mr_s at z
  unfold fj_t
  omega
theorem dj_lg_nc_fj_t {k : Nat} {i : Int} (z : lg_nc k i) : ¬ fj_t k i := by
  unfold lg_nc at z
  unfold fj_t
  omega
theorem dj_lg_al2_fj_t {k : Nat} {i : Int} (z : lg_al2 k i) : ¬ fj_t k i := z.el dj_lg_tc_fj_t dj_lg_j_fj_t dj_lg_bc_fj_t dj_lg_xc_fj_t dj_lg_uc_fj_t dj_lg_nc_fj_t
theorem dj_lg_sc_fj_t {k : Nat} {i : Int} (z : lg_sc k i) : ¬ fj_t k i := by
  unfold lg_sc at z
  unfold fj_t
  omega
theorem dj_lg_all_fj_t {k : Nat} {i : Int} (z : lg_all k i) : ¬ fj_t k i := z.elim dj_lg_al2_fj_t dj_lg_sc_fj_t
theorem dj_lg_sc_lz_sm {k : Nat} {i : Int} (z : lg_sc k i) : ¬ lz_sm k i := by
  unfold lg_sc at z
  unfold lz_sm mr_t mr_k
  omega
theorem dj_lg_j_fx_t {k : Nat} {i : Int} (z : lg_j k i) : ¬ fx_t k i := by
  unfold lg_j at z
  unfold fx_t
  omega
theorem dj_lg_j_fy_t {k : Nat} {i : Int} (z : lg_j k i) : ¬ fy_t k i := by
  unfold lg_j at z
  unfold fy_t
  omega
theorem dj_lg_bc_fx_t {k : Nat} {i : Int} (z : lg_bc k i) : ¬ fx_t k i := by
  unfold lg_bc at z
  unfold fx_t
  omega
theorem dj_lg_bc_fy_t {k : Nat} {i : Int} (z : lg_bc k i) : ¬ fy_t k i := by
  unfold lg_bc at z
  unfold fy_t
  omega
theorem dj_lg_xc_fx_t {k : Nat} {i : Int} (z : lg_xc k i) : ¬ fx_t k i := by
  unfold lg_xc at z
  unfold fx_t
  omega
theorem dj_lg_xc_fy_t {k : Nat} {i : Int} (z : lg_xc k i) : ¬ fy_t k i := by
  unfold lg_xc at z
  unfold fy_t
  omega
theorem dj_lg_uc_fx_t {k : Nat} {i : Int} (z : lg_uc k i) : ¬ fx_t k i := by
  unfold lg_uc mr_s at z
  unfold fx_t
  omega
theorem dj_lg_uc_fy_t {k : Nat} {i : Int} (z : lg_uc k i) : ¬ fy_t k i := by
  unfold lg_uc mr_s at z
  unfold fy_t
  omega
theorem dj_lg_sc_fx_t {k : Nat} {i : Int} (z : lg_sc k i) : ¬ fx_t k i := by
  unfold lg_sc at z
  unfold fx_t
  omega
theorem dj_lg_sc_fy_t {k : Nat} {i : Int} (z : lg_sc k i) : ¬ fy_t k i := by
  unfold lg_sc at z
  unfold fy_t
  omega
theorem dj_lg_nc_fx_t {k : Nat} {i : Int} (z : lg_nc k i) : ¬ fx_t k i := by
  unfold lg_nc at z
  unfold fx_t
  omega
theorem dj_lg_nc_fy_t {k : Nat} {i : Int} (z : lg_nc k i) : ¬ fy_t k i := by
  unfold lg_nc at z
  unfold fy_t
  omega
theorem dj_lg_j_lz_b1 {k : Nat} {i : Int} (z : lg_j k i) : ¬ lz_b1 k i := by
  unfold lg_j at z
  unfold lz_b1
  omega
theorem dj_lg_j_fb_t {k : Nat} {i : Int} (z : lg_j k i) : ¬ fb_t k i := by
  unfold lg_j at z
  unfold fb_t
  omega
theorem dj_lg_xc_lz_b1 {k : Nat} {i : Int} (z : lg_xc k i) : ¬ lz_b1 k i := by
  unfold lg_xc at z
  unfold lz_b1
  omega
theorem dj_lg_xc_fb_t {k : Nat} {i : Int} (z : lg_xc k i) : ¬ fb_t k i := by
  unfold lg_xc at z
  unfold fb_t
  omega
theorem dj_lg_uc_lz_b1 {k : Nat} {i : Int} (z : lg_uc k i) : ¬ lz_b1 k i := by
  unfold lg_uc mr_s at z
  unfold lz_b1
  omega
theorem dj_lg_uc_fb_t {k : Nat} {i : Int} (z : lg_uc k i) : ¬ fb_t k i := by
  unfold lg_uc mr_s at z
  unfold fb_t
  omega
theorem dj_lg_sc_lz_b1 {k : Nat} {i : Int} (z : lg_sc k i) : ¬ lz_b1 k i := by
  unfold lg_sc at z
  unfold lz_b1
  omega
theorem dj_lg_sc_fb_t {k : Nat} {i : Int} (z : lg_sc k i) : ¬ fb_t k i := by
  unfold lg_sc at z
  unfold fb_t
  omega
theorem dj_lg_nc_lz_b1 {k : Nat} {i : Int} (z : lg_nc k i) : ¬ lz_b1 k i := by
  unfold lg_nc at z
  unfold lz_b1
  omega
theorem dj_lg_nc_fb_t {k : Nat} {i : Int} (z : lg_nc k i) : ¬ fb_t k i := by
  unfold lg_nc at z
  unfold fb_t
  omega
theorem dj_lg_bc_lz_j1 {k : Nat} {i : Int} (z : lg_bc k i) : ¬ lz_j1 k i := by
  unfold lg_bc at z
  unfold lz_j1
  omega
theorem dj_lg_bc_lz_j2 {k : Nat} {i : Int} (z : lg_bc k i) : ¬ lz_j2 k i := by
  unfold lg_bc at z
  unfold lz_j2
  omega
theorem dj_lg_xc_lz_j1 {k : Nat} {i : Int} (z : lg_xc k i) : ¬ lz_j1 k i := by
  unfold lg_xc at z
  unfold lz_j1
  omega
theorem dj_lg_xc_lz_j2 {k : Nat} {i : Int} (z : lg_xc k i) : ¬ lz_j2 k i := by
  unfold lg_xc at z
  unfold lz_j2
  omega
theorem dj_lg_uc_lz_j1 {k : Nat} {i : Int} (z : lg_uc k i) : ¬ lz_j1 k i := by
  unfold lg_uc mr_s at z
  unfold lz_j1
  omega
theorem dj_lg_uc_lz_j2 {k : Nat} {i : Int} (z : lg_uc k i) : ¬ lz_j2 k i := by
  unfold lg_uc mr_s at z
  unfold lz_j2
  omega
theorem dj_lg_sc_lz_j1 {k : Nat} {i : Int} (z : lg_sc k i) : ¬ lz_j1 k i := by
  unfold lg_sc at z
  unfold lz_j1
  omega
theorem dj_lg_sc_lz_j2 {k : Nat} {i : Int} (z : lg_sc k i) : ¬ lz_j2 k i := by
  unfold lg_sc at z
  unfold lz_j2
  omega
theorem dj_lg_nc_lz_j1 {k : Nat} {i : Int} (z : lg_nc k i) : ¬ lz_j1 k i := by
  unfold lg_nc at z
  unfold lz_j1
  omega
theorem dj_lg_nc_lz_j2 {k : Nat} {i : Int} (z : lg_nc k i) : ¬ lz_j2 k i := by
  unfold lg_nc at z
  unfold lz_j2
  omega
theorem dj_lg_tc_lz_m1 {k : Nat} {i : Int} (z : lg_tc k i) : ¬ lz_m1 k i := by
  unfold lg_tc at z
  unfold lz_m1
  omega
theorem dj_lg_tc_fk_t {k : Nat} {i : Int} (z : lg_tc k i) : ¬ fk_t k i := by
  unfold lg_tc at z
  unfold fk_t
  omega
theorem dj_lg_j_lz_m1 {k : Nat} {i : Int} (z : lg_j k i) : ¬ lz_m1 k i := by
  unfold lg_j at z
  unfold lz_m1
  omega
theorem dj_lg_j_fk_t {k : Nat} {i : Int} (z : lg_j k i) : ¬ fk_t k i := by
  unfold lg_j at z
  unfold fk_t
  omega
theorem dj_lg_xc_lz_m1 {k : Nat} {i : Int} (z : lg_xc k i) : ¬ lz_m1 k i := by
  unfold lg_xc at z
  unfold lz_m1
  omega
theorem dj_lg_xc_fk_t {k : Nat} {i : Int} (z : lg_xc k i) : ¬ fk_t k i := by
  unfold lg_xc at z
  unfold fk_t
  omega
theorem dj_lg_uc_lz_m1 {k : Nat} {i : Int} (z : lg_uc k i) : ¬ lz_m1 k i := by
  unfold lg_uc mr_s at z
  unfold lz_m1
  omega
theorem dj_lg_uc_fk_t {k : Nat} {i : Int} (z : lg_uc k i) : ¬ fk_t k i := by
  unfold lg_uc mr_s at z
  unfold fk_t
  omega
theorem dj_lg_sc_lz_m1 {k : Nat} {i : Int} (z : lg_sc k i) : ¬ lz_m1 k i := by
  unfold lg_sc at z
  unfold lz_m1
  omega
theorem dj_lg_sc_fk_t {k : Nat} {i : Int} (z : lg_sc k i) : ¬ fk_t k i := by
  unfold lg_sc at z
  unfold fk_t
  omega
theorem dj_lg_nc_lz_m1 {k : Nat} {i : Int} (z : lg_nc k i) : ¬ lz_m1 k i := by
  unfold lg_nc at z
  unfold lz_m1
  omega
theorem dj_lg_nc_fk_t {k : Nat} {i : Int} (z : lg_nc k i) : ¬ fk_t k i := by
  unfold lg_nc at z
  unfold fk_t
  omega
theorem dj_lg_tc_lz_k1 {k : Nat} {i : Int} (z : lg_tc k i) : ¬ lz_k1 k i := by
  unfold lg_tc at z
  unfold lz_k1
  omega
theorem dj_lg_tc_lz_k2 {k : Nat} {i : Int} (z : lg_tc k i) : ¬ lz_k2 k i := by
  unfold lg_tc at z
  unfold lz_k2
  omega
theorem dj_lg_j_lz_k1 {k : Nat} {i : Int} (z : lg_j k i) : ¬ lz_k1 k i := by
  unfold lg_j at z
  unfold lz_k1
  omega
theorem dj_lg_j_lz_k2 {k : Nat} {i : Int} (z : lg_j k i) : ¬ lz_k2 k i := by
  unfold lg_j at z
  unfold lz_k2
  omega
theorem dj_lg_xc_lz_k1 {k : Nat} {i : Int} (z : lg_xc k i) : ¬ lz_k1 k i := by
  unfold lg_xc at z
  unfold lz_k1
  omega
theorem dj_lg_xc_lz_k2 {k : Nat} {i : Int} (z : lg_xc k i) : ¬ lz_k2 k i := by
  unfold lg_xc at z
  unfold lz_k2
  omega
theorem dj_lg_uc_lz_k1 {k : Nat} {i : Int} (z : lg_uc k i) : ¬ lz_k1 k i := by
  unfold lg_uc mr_s at z
  unfold lz_k1
  omega
theorem dj_lg_uc_lz_k2 {k : Nat} {i : Int} (z : lg_uc k i) : ¬ lz_k2 k i := by
  unfold lg_uc mr_s at z
  unfold lz_k2
  omega
theorem dj_lg_sc_lz_k1 {k : Nat} {i : Int} (z : lg_sc k i) : ¬ lz_k1 k i := by
  unfold lg_sc at z
  unfold lz_k1
  omega
theorem dj_lg_sc_lz_k2 {k : Nat} {i : Int} (z : lg_sc k i) : ¬ lz_k2 k i := by
  unfold lg_sc at z
  unfold lz_k2
  omega
theorem dj_lg_nc_lz_k1 {k : Nat} {i : Int} (z : lg_nc k i) : ¬ lz_k1 k i := by
  unfold lg_nc at z
  unfold lz_k1
  omega
theorem dj_lg_nc_lz_k2 {k : Nat} {i : Int} (z : lg_nc k i) : ¬ lz_k2 k i := by
  unfold lg_nc at z
  unfold lz_k2
  omega
theorem dj_lg_tc_lz_ck {k : Nat} {i : Int} (z : lg_tc k i) : ¬ lz_ck k i := by
  unfold lg_tc at z
  unfold lz_ck
  omega
theorem dj_lg_j_lz_ck {k : Nat} {i : Int} (z : lg_j k i) : ¬ lz_ck k i := by
  unfold lg_j at z
  unfold lz_ck
  omega
theorem dj_lg_bc_lz_ck {k : Nat} {i : Int} (z : lg_bc k i) : ¬ lz_ck k i := by
  unfold lg_bc at z
  unfold lz_ck
  omega
theorem dj_lg_xc_lz_ck {k : Nat} {i : Int} (z : lg_xc k i) : ¬ lz_ck k i := by
  unfold lg_xc at z
  unfold lz_ck
  omega
theorem dj_lg_uc_lz_ck {k : Nat} {i : Int} (z : lg_uc k i) : ¬ lz_ck k i := by
  unfold lg_uc mr_s at z
  unfold lz_ck
  omega
theorem dj_lg_nc_lz_ck {k : Nat} {i : Int} (z : lg_nc k i) : ¬ lz_ck k i := by
  unfold lg_nc at z
  unfold lz_ck
  omega
theorem dj_lg_al2_lz_ck {k : Nat} {i : Int} (z : lg_al2 k i) : ¬ lz_ck k i := z.el dj_lg_tc_lz_ck dj_lg_j_lz_ck dj_lg_bc_lz_ck dj_lg_xc_lz_ck dj_lg_uc_lz_ck dj_lg_nc_lz_ck
theorem dj_lg_tc_lz_sm {k : Nat} {i : Int} (z : lg_tc k i) : ¬ lz_sm k i := by
  unfold lg_tc at z
  unfold lz_sm mr_t mr_k
  omega
theorem dj_lg_j_lz_sm {k : Nat} {i : Int} (z : lg_j k i) : ¬ lz_sm k i := by
  unfold lg_j at z
  unfold lz_sm mr_t mr_k
  omega
theorem dj_lg_bc_lz_sm {k : Nat} {i : Int} (z : lg_bc k i) : ¬ lz_sm k i := by
  unfold lg_bc at z
  unfold lz_sm mr_t mr_k
  omega
theorem dj_lg_xc_lz_sm {k : Nat} {i : Int} (z : lg_xc k i) : ¬ lz_sm k i := by
  unfold lg_xc at z
  unfold lz_sm mr_t mr_k
  omega
theorem dj_lg_uc_lz_sm {k : Nat} {i : Int} (z : lg_uc k i) : ¬ lz_sm k i := by
  unfold lg_uc mr_s at z
  unfold lz_sm mr_t mr_k
  omega
theorem dj_lg_nc_lz_sm {k : Nat} {i : Int} (z : lg_nc k i) : ¬ lz_sm k i := by
  unfold lg_nc at z
  unfold lz_sm mr_t mr_k
  omega
theorem dj_lg_al2_lz_sm {k : Nat} {i : Int} (z : lg_al2 k i) : ¬ lz_sm k i := z.el dj_lg_tc_lz_sm dj_lg_j_lz_sm dj_lg_bc_lz_sm dj_lg_xc_lz_sm dj_lg_uc_lz_sm dj_lg_nc_lz_sm
theorem lx_0 {a : dc_M} {x : Int} : ∀ (k : Nat) (i : Int), ¬ lz_0 k i → dc_up a 114 0 x k i = a k i := fun k i z => if_neg z
theorem lx_159 {x : Int} {m : dc_M} {v : Int} {m' : dc_M} (h : D_159 x m v m') : ∀ (k : Nat) (i : Int), ¬ lz_0 k i → m' k i = m k i := by
  rcases h with ⟨-, -, em⟩ | ⟨-, ⟨-, -, em⟩ | ⟨-, -, -, em⟩⟩
  · rw [em]; exact fun _ _ _ => rfl
  · rw [em]; exact fun _ _ _ => rfl
  · rw [em]; exact fun _ _ _ => rfl
theorem pp_145 {t n x v v' : Int} {a b c : dc_M} (P : lx_P t a) (ht : 0 ≤ t ∧ t ≤ 600) (hn : 0 ≤ n ∧ n ≤ 740) (n1 : a 1 1 = n) (n2 : a 114 2 = n) (h : D_145 x a v b) (h' : D_186 x b v' c) : v' = v ∧ lx_P (t + 1) c := by
  have f : ∀ (k : Nat) (i : Int), ¬ lz_1 k i → b k i = a k i := by
    rcases h with ⟨-, -, em⟩ | ⟨-, ⟨-, m1, e1, -, em⟩ | ⟨-, -, em⟩⟩
    · rw [em]; exact fun _ _ _ => rfl
    · rw [em, e1]; exact fun k i z => if_neg z
    · rw [em]; exact fun _ _ _ => rfl
  have g := fq_186 h'
  refine ⟨?_, P.qu (fun k i z => (g k i (dj_lg_all_fq_t z)).trans (f k i (dj_lg_all_lz_1 z)))⟩
  have g2 : b 114 2 = n := (f 114 2 (by unfold lz_1; omega)).trans n2
  obtain ⟨m3, e3, h'⟩ := h'
  have g3 : m3 114 2 = n := by rw [e3, dc_up_i (by decide)]; exact g2
  rw [g3] at h'
  unfold D_145 at h
  rw [n1] at h
  rcases h with ⟨c1, ev, -⟩ | ⟨c1, ⟨c2, m1, -, ev, -⟩ | ⟨c2, ev, -⟩⟩
  · rcases h' with ⟨-, ev', -⟩ | ⟨d1, -⟩
    · exact ev'.trans ev.symm
    · exact absurd c1 d1
  · rcases h' with ⟨d1, -⟩ | ⟨-, ⟨-, m5, -, ev', -⟩ | ⟨d2, -⟩⟩
    · exact absurd d1 c1
    · exact ev'.trans ev.symm
    · exact absurd c2 d2
  · rcases h' with ⟨d1, -⟩ | ⟨-, ⟨d2, -⟩ | ⟨-, ev', -⟩⟩
    · exact absurd d1 c1
    · exact absurd d2 c2
    · exact ev'.trans ev.symm
theorem pp_151 {t n v v' : Int} {a b c : dc_M} (P : lx_P t a) (ht : 0 ≤ t ∧ t ≤ 600) (hn : 0 ≤ n ∧ n ≤ 740) (n1 : a 1 1 = n) (n2 : a 114 2 = n) (h : D_151 a v b) (h' : D_202 b v' c) : v' = v ∧ lx_P (t + 1) c := by
  obtain ⟨ev, em⟩ := h
  subst em
  have g := fq_202 h'
  obtain ⟨m3, e3, ev', -⟩ := h'
  refine ⟨?_, P.qu (fun k i z => g k i (dj_lg_all_fq_t z))⟩
  rw [ev', e3, dc_up_i (by decide), ev]
  exact P.1.2.symm
theorem pp_147 {t n x v v' : Int} {a b c : dc_M} (P : lx_P t a) (ht : 0 ≤ t ∧ t ≤ 600) (hn : 0 ≤ n ∧ n ≤ 740) (n1 : a 1 1 = n) (n2 : a 114 2 = n) (h : D_147 x a v b) (h' : D_192 x b v' c) : v' = v ∧ lx_P (t + 1) c := by
  obtain ⟨Nn, Bb, V, x1, x2⟩ := P.2.2.2.1
  obtain ⟨em, ev⟩ := cs_147 x1 h
  subst em
  obtain ⟨g, ev'⟩ := rs_192 x2 h'
  refine ⟨?_, P.qu (fun k i z => g k i (dj_lg_all_lz_0 z))⟩
  rw [ev, ev']
theorem pp_181 {t n x v v' : Int} {a b c : dc_M} (P : lx_P t a) (ht : 0 ≤ t ∧ t ≤ 600) (hn : 0 ≤ n ∧ n ≤ 740) (n1 : a 1 1 = n) (n2 : a 114 2 = n) (h : D_181 x a v b) (h' : D_282 x b v' c) : v' = v ∧ lx_P (t + 1) c := by
  obtain ⟨Nn, Bb, V, x1, x2⟩ := P.2.2.2.1
  obtain ⟨em, ev⟩ := cs_181 x1 h
  subst em
  obtain ⟨g, ev'⟩ := rs_282 x2 h'
  refine ⟨?_, P.qu (fun k i z => g k i (dj_lg_all_lz_0 z))⟩
  obtain ⟨W, w1, w2⟩ := P.2.2.1.2.1
  rw [ev, ev', w1.1, w2.1, n1, n2]
theorem pp_173 {t n x v v' : Int} {a b c : dc_M} (P : lx_P t a) (ht : 0 ≤ t ∧ t ≤ 600) (hn : 0 ≤ n ∧ n ≤ 740) (n1 : a 1 1 = n) (n2 : a 114 2 = n) (h : D_173 x a v b) (h' : D_244 x b v' c) : v' = v ∧ lx_P (t + 1) c := by
  obtain ⟨em, ev⟩ := cs_173 h
  subst em
  obtain ⟨⟨u1, u2, u3⟩, -⟩ := P.2.2.2.2.2.2
  obtain ⟨g, ev'⟩ := rs_244 (by rw [← u1]; exact u2) h'
  refine ⟨?_, P.qu (fun k i z => g k i (dj_lg_all_lz_0 z))⟩
  rw [ev, ev', ← u1]
  by_cases y : 0 ≤ x ∧ x < b 29 11
  · rw [if_pos y, if_pos y]; exact (u3 x y.1 y.2).symm
  · rw [if_neg y, if_neg y]
theorem pp_161 {t n v v' : Int} {a b c : dc_M} (P : lx_P t a) (ht : 0 ≤ t ∧ t ≤ 600) (hn : 0 ≤ n ∧ n ≤ 740) (n1 : a 1 1 = n) (n2 : a 114 2 = n) (h : D_161 a v b) (h' : D_241 b v' c) : v' = v ∧ lx_P (t + 1) c := by
  obtain ⟨ev, em⟩ := h
  subst em
  have g := fq_241 h'
  obtain ⟨m3, e3, ev', -⟩ := h'
  refine ⟨?_, P.qu (fun k i z => g k i (dj_lg_all_fq_t z))⟩
  rw [ev', e3, dc_up_i (by decide), ev]
  exact P.2.2.2.2.2.2.2.1.1.symm
theorem pp_162 {t n v v' : Int} {a b c : dc_M} (P : lx_P t a) (ht : 0 ≤ t ∧ t ≤ 600) (hn : 0 ≤ n ∧ n ≤ 740) (n1 : a 1 1 = n) (n2 : a 114 2 = n) (h : D_162 a v b) (h' : D_242 b v' c) : v' = v ∧ lx_P (t + 1) c := by
  obtain ⟨ev, em⟩ := h
  subst em
  have g := fq_242 h'
  obtain ⟨m3, e3, ev', -⟩ := h'
  refine ⟨?_, P.qu (fun k i z => g k i (dj_lg_all_fq_t z))⟩
  rw [ev', e3, dc_up_i (by decide), ev]
  exact P.2.2.2.2.2.2.2.1.2.symm
theorem pp_171 {t n v v' : Int} {a b c : dc_M} (P : lx_P t a) (ht : 0 ≤ t ∧ t ≤ 600) (hn : 0 ≤ n ∧ n ≤ 740) (n1 : a 1 1 = n) (n2 : a 114 2 = n) (h : D_171 a v b) (h' : D_234 b v' c) : v' = v ∧ lx_P (t + 1) c := by
  obtain ⟨ev, em⟩ := h
  subst em
  have g := fq_234 h'
  obtain ⟨m3, e3, ev', -⟩ := h'
  refine ⟨?_, P.qu (fun k i z => g k i (dj_lg_all_fq_t z))⟩
  rw [ev', e3, dc_up_i (by decide), ev]
  exact P.2.2.2.2.2.2.2.2.symm
theorem pp_153 {t n x v v' : Int} {a b c : dc_M} (P : lx_P t a) (ht : 0 ≤ t ∧ t ≤ 600) (hn : 0 ≤ n ∧ n ≤ 740) (n1 : a 1 1 = n) (n2 : a 114 2 = n) (h : D_153 x a v b) (h' : D_226 x b v' c) : v' = v ∧ lx_P (t + 1) c := by
  rcases P.2.2.2.2.1 with ⟨u1, u2, -⟩ | ⟨u1, u2, F, g1, g2, -⟩
  · obtain ⟨em, ev⟩ := cs_153 (F := a) (fun y => absurd u1 y) h
    subst em
    obtain ⟨g, ev'⟩ := rs_226 (F := b) (fun y => absurd u2 y) h'
    refine ⟨?_, P.qu (fun k i z => g k i (dj_lg_all_lz_0 z))⟩
    rw [ev, ev', if_pos u1, if_pos u2]
  · obtain ⟨em, ev⟩ := cs_153 (F := F) (fun _ => g1) h
    subst em
    obtain ⟨g, ev'⟩ := rs_226 (F := F) (fun _ => g2) h'
    refine ⟨?_, P.qu (fun k i z => g k i (dj_lg_all_lz_0 z))⟩
    rw [ev, ev', if_neg (by rw [u2]; decide), if_neg (by rw [u1]; decide)]
theorem pp_148 {t n x y z v v' : Int} {a b c : dc_M} (P : lx_P t a) (ht : 0 ≤ t ∧ t ≤ 600) (hn : 0 ≤ n ∧ n ≤ 740) (n1 : a 1 1 = n) (n2 : a 114 2 = n) (h : D_148 x y z a v b) (h' : D_193 x y z b v' c) : lx_P (t + 1) c ∧ (c 114 0 = 0 ∧ v' = v) := by
  obtain ⟨Nn, Bb, V, x1, x2⟩ := P.2.2.2.1
  obtain ⟨em, hc, ev⟩ := cs_148 x1 h
  subst em
  obtain ⟨g, q⟩ := rs_193 x2 h'
  refine ⟨P.qu (fun k i z => g k i (dj_lg_all_lz_0 z)), ?_⟩
  rcases q with ⟨-, ev', e0⟩ | ⟨q, -⟩
  · exact ⟨e0, ev'.trans ev.symm⟩
  · exact absurd hc q
theorem pp_155 {t n x v v' : Int} {a b c : dc_M} (P : lx_P t a) (ht : 0 ≤ t ∧ t ≤ 600) (hn : 0 ≤ n ∧ n ≤ 740) (n1 : a 1 1 = n) (n2 : a 114 2 = n) (h : D_155 x a v b) (h' : D_228 x b v' c) : lx_P (t + 1) c ∧ (c 114 0 = 0 ∧ v' = v) := by
  obtain ⟨em, hc, ev⟩ := cs_155 h
  subst em
  obtain ⟨g, q⟩ := rs_228 h'
  refine ⟨P.qu (fun k i z => g k i (dj_lg_all_lz_0 z)), ?_⟩
  rcases P.2.2.2.2.1 with ⟨u1, -⟩ | ⟨u1, u2, F, g1, g2, -⟩
  · exact absurd u1 hc.1
  · rcases q with ⟨-, ev', e0⟩ | ⟨q, -⟩
    · refine ⟨e0, ?_⟩
      obtain ⟨-, -, -, -, -, -, -, -, o9, -⟩ := g1
      obtain ⟨-, -, -, -, -, -, -, -, -, r9, -⟩ := g2
      have l9 := r9 (x - 1) (by omega) (by omega)
      have k9 := o9 (x - 1) (by omega) (by omega)
      rw [ev', ev]
      exact l9.trans k9.symm
    · exact absurd ⟨by rw [u2]; decide, hc.2⟩ q
theorem pp_154 {t n x y v v' : Int} {a b c : dc_M} (P : lx_P t a) (ht : 0 ≤ t ∧ t ≤ 600) (hn : 0 ≤ n ∧ n ≤ 740) (n1 : a 1 1 = n) (n2 : a 114 2 = n) (h : D_154 x y a v b) (h' : D_227 x y b v' c) : lx_P (t + 1) c ∧ (c 114 0 = 0 ∧ v' = v) := by
  obtain ⟨em, hc, ev⟩ := cs_154 h
  subst em
  rcases P.2.2.2.2.1 with ⟨u1, u2, u3⟩ | ⟨u1, u2, F, g1, g2, g3, g4⟩
  · exfalso
    have hc1 := hc.1
    rw [u3] at hc1
    rw [if_neg (by decide)] at hc1
    omega
  · have e1 : b 131 1 = F 0 1 := g2.2.1
    have e2 : b 12 1 = F 0 1 := g1.1
    obtain ⟨g, q⟩ := rs_227 (by rw [e1]; exact g3) h'
    refine ⟨P.qu (fun k i z => g k i (dj_lg_all_lz_0 z)), ?_⟩
    rw [e2, if_neg (by omega)] at hc
    rw [e1, u2] at q
    rcases q with ⟨-, ev', e0⟩ | ⟨q, -⟩
    · refine ⟨e0, ?_⟩
      obtain ⟨-, -, -, -, -, -, -, o8, -⟩ := g1
      obtain ⟨-, -, -, -, -, -, -, -, r8, -⟩ := g2
      have l9 := r8 (12 * x + (y - 1)) (by omega) (by omega)
      have k9 := o8 (12 * x + (y - 1)) (by omega) (by omega)
      rw [ev', ev]
      exact l9.trans k9.symm
    · exact absurd ⟨by decide, hc⟩ q
theorem pp_159 {t n x v v' : Int} {a b c : dc_M} (P : lx_P t a) (ht : 0 ≤ t ∧ t ≤ 600) (hn : 0 ≤ n ∧ n ≤ 740) (n1 : a 1 1 = n) (n2 : a 114 2 = n) (h : D_159 x a v b) (h' : D_239 x b v' c) : lx_P (t + 1) c := by
  have f := lx_159 h
  have g := fq_239 h'
  exact P.qu (fun k i z => (g k i (dj_lg_all_fq_t z)).trans (f k i (dj_lg_all_lz_0 z)))
theorem pp_175 {t n x y v v' : Int} {a b c : dc_M} (P : lx_P t a) (ht : 0 ≤ t ∧ t ≤ 600) (hn : 0 ≤ n ∧ n ≤ 740) (n1 : a 1 1 = n) (n2 : a 114 2 = n) (h : D_175 x y a v b) (h' : D_248 x y b v' c) : lx_P (t + 1) c := by
  have f := fc_175 h
  have g := fq_248 h'
  exact P.qu (fun k i z => (g k i (dj_lg_all_fq_t z)).trans (f k i (dj_lg_all_fc_t z)))
theorem pp_168 {t n x y v v' : Int} {a b c : dc_M} (P : lx_P t a) (ht : 0 ≤ t ∧ t ≤ 600) (hn : 0 ≤ n ∧ n ≤ 740) (n1 : a 1 1 = n) (n2 : a 114 2 = n) (h : D_168 x y a v b) (h' : D_270 x y b v' c) : lx_P (t + 1) c := by
  have f := fc_168 h
  have g := fq_270 h'
  exact P.qu (fun k i z => (g k i (dj_lg_all_fq_t z)).trans (f k i (dj_lg_all_fc_t z)))
theorem pp_178 {t n x y v v' : Int} {a b c : dc_M} (P : lx_P t a) (ht : 0 ≤ t ∧ t ≤ 600) (hn : 0 ≤ n ∧ n ≤ 740) (n1 : a 1 1 = n) (n2 : a 114 2 = n) (h : D_178 x y a v b) (h' : D_277 x y b v' c) : lx_P (t + 1) c := by
  have f := fd_178 h
  have g := fe_277 h'
  exact P.qu (fun k i z => (g k i (dj_lg_all_fe_t z)).trans (f k i (dj_lg_all_fd_t z)))
theorem pp_179 {t n v v' : Int} {a b c : dc_M} (P : lx_P t a) (ht : 0 ≤ t ∧ t ≤ 600) (hn : 0 ≤ n ∧ n ≤ 740) (n1 : a 1 1 = n) (n2 : a 114 2 = n) (h : D_179 a v b) (h' : D_278 b v' c) : lx_P (t + 1) c := by
  have f := fd_179 h
  have g := fe_278 h'
  exact P.qu (fun k i z => (g k i (dj_lg_all_fe_t z)).trans (f k i (dj_lg_all_fd_t z)))
theorem pp_180 {t n x v v' : Int} {a b c : dc_M} (P : lx_P t a) (ht : 0 ≤ t ∧ t ≤ 600) (hn : 0 ≤ n ∧ n ≤ 740) (n1 : a 1 1 = n) (n2 : a 114 2 = n) (h : D_180 x a v b) (h' : D_281 x b v' c) : lx_P (t + 1) c := by
  have f := fc_180 h
  have g := fe_281 h'
  exact P.qu (fun k i z => (g k i (dj_lg_all_fe_t z)).trans (f k i (dj_lg_all_fc_t z)))
theorem pp_167 {t n x y v v' : Int} {a b c : dc_M} (P : lx_P t a) (ht : 0 ≤ t ∧ t ≤ 600) (hn : 0 ≤ n ∧ n ≤ 740) (n1 : a 1 1 = n) (n2 : a 114 2 = n) (h : D_167 x y a v b) (h' : D_269 x y b v' c) : lx_P (t + 1) c := by
  have f := fv_167 h
  have g := fw_269 h'
  exact P.qu (fun k i z => (g k i (dj_lg_all_fw_t z)).trans (f k i (dj_lg_all_fv_t z)))
theorem pp_146 {t n x v v' : Int} {a b c : dc_M} (P : lx_P t a) (ht : 0 ≤ t ∧ t ≤ 600) (hn : 0 ≤ n ∧ n ≤ 740) (n1 : a 1 1 = n) (n2 : a 114 2 = n) (h : D_146 x a v b) (h' : D_191 x b v' c) : v' = v ∧ lx_P (t + 1) c := by
  have by0 := P.by0
  obtain ⟨T, J, B, ⟨Nn, Bb, V, x1, x2⟩, U, S, N⟩ := P
  obtain ⟨-, f0, q⟩ := cs_card x1 by0 (by rw [n1]; exact hn) h
  have f : ∀ (k : Nat) (i : Int), ¬ lz_c1 k i → b k i = a k i := fun k i z => f0 k i (fun y => z (Or.inl y)) (fun y => z (Or.inr (Or.inl y))) (fun y => z (Or.inr (Or.inr y)))
  have e2 : b 114 2 = n := (f 114 2 (by unfold lz_c1; omega)).trans n2
  have x2b : bx_R Nn Bb b := x2.cg (fun k i hk => f k i (by unfold lz_c1; omega))
  obtain ⟨-, g0, q'⟩ := rs_card x2b (by rw [e2]; exact hn) h'
  have g : ∀ (k : Nat) (i : Int), ¬ lz_c2 k i → c k i = b k i := fun k i z => g0 k i (fun y => z (Or.inl y)) (fun y => z (Or.inr (Or.inl y))) (fun y => z (Or.inr (Or.inr y)))
  have et : rz_t b = a 2 := by
    rw [T.1]
    exact rz_t_e (funext fun i => f 115 i (by unfold lz_c1; omega))
  rw [et, e2] at q'
  rw [n1] at q
  have up : ∀ {M : Int → Int} {D : Int → Int → Int → Int}, bx_C M D b → bx_C M D c := fun {M D} y => y.cg (fun k i hk => g k i (by unfold lz_c2; omega))
  have fin : ∀ (X : lg_X c), lx_P (t + 1) c := fun X => lx_P.mk2 (T.go (fun k i z => (g k i (dj_lg_tc_lz_c2 z)).trans (f k i (dj_lg_tc_lz_c1 z)))) (J.go (fun k i z => (g k i (dj_lg_j_lz_c2 z)).trans (f k i (dj_lg_j_lz_c1 z)))) (B.go (fun k i z => (g k i (dj_lg_bc_lz_c2 z)).trans (f k i (dj_lg_bc_lz_c1 z)))) X (U.go (fun k i z => (g k i (dj_lg_uc_lz_c2 z)).trans (f k i (dj_lg_uc_lz_c1 z)))) (lg_e.s S (by omega) (fun k i z => (g k i (dj_lg_sc_lz_c2 z)).trans (f k i (dj_lg_sc_lz_c1 z)))) (Int.le_refl _) (N.go (fun k i z => (g k i (dj_lg_nc_lz_c2 z)).trans (f k i (dj_lg_nc_lz_c1 z))))
  rcases q with ⟨hc, ev, X1⟩ | ⟨hc, ev, X1⟩
  · rcases q' with ⟨-, ev', X2⟩ | ⟨hc', -⟩
    · refine ⟨ev'.trans ev.symm, fin ⟨_, _, ru_V V (fun i i0 i1 => hc.2.2.2.2 i i0 (by omega)), up X1, X2⟩⟩
    · exact absurd hc hc'
  · rcases q' with ⟨hc', -⟩ | ⟨-, ev', X2⟩
    · exact absurd hc' hc
    · exact ⟨ev'.trans ev.symm, fin ⟨_, _, V, up X1, X2⟩⟩
theorem pp_149 {t n x v v' : Int} {a b c : dc_M} (P : lx_P t a) (ht : 0 ≤ t ∧ t ≤ 600) (hn : 0 ≤ n ∧ n ≤ 740) (n1 : a 1 1 = n) (n2 : a 114 2 = n) (h : D_149 x a v b) (h' : D_194 x b v' c) : v' = v ∧ lx_P (t + 1) c := by
  have P0 := P
  obtain ⟨T, J, B, ⟨Nn, Bb, V, x1, x2⟩, U, S, N⟩ := P
  rcases cs_149 x1 h with ⟨hx, ev, X1, f0⟩ | ⟨hx, ev, em⟩
  · have f : ∀ (k : Nat) (i : Int), ¬ lz_e1 k i → b k i = a k i := fun k i z => f0 k i z
    have x2b : bx_R Nn Bb b := x2.cg (fun k i hk => f k i (by unfold lz_e1; omega))
    rcases rs_194 x2b h' with ⟨-, ev', X2, g0⟩ | ⟨hx', -⟩
    · have g : ∀ (k : Nat) (i : Int), ¬ lz_e2 k i → c k i = b k i := fun k i z => g0 k i (fun y => z (Or.inl y)) (fun y => z (Or.inr y))
      have X : lg_X c := ⟨_, _, V, X1.cg (fun k i hk => g k i (by unfold lz_e2; omega)), X2⟩
      exact ⟨ev'.trans ev.symm, lx_P.mk2 (T.go (fun k i z => (g k i (dj_lg_tc_lz_e2 z)).trans (f k i (dj_lg_tc_lz_e1 z)))) (J.go (fun k i z => (g k i (dj_lg_j_lz_e2 z)).trans (f k i (dj_lg_j_lz_e1 z)))) (B.go (fun k i z => (g k i (dj_lg_bc_lz_e2 z)).trans (f k i (dj_lg_bc_lz_e1 z)))) X (U.go (fun k i z => (g k i (dj_lg_uc_lz_e2 z)).trans (f k i (dj_lg_uc_lz_e1 z)))) (lg_e.s S (by omega) (fun k i z => (g k i (dj_lg_sc_lz_e2 z)).trans (f k i (dj_lg_sc_lz_e1 z)))) (Int.le_refl _) (N.go (fun k i z => (g k i (dj_lg_nc_lz_e2 z)).trans (f k i (dj_lg_nc_lz_e1 z))))⟩
    · exact absurd hx hx'
  · subst em
    rcases rs_194 x2 h' with ⟨hx', -⟩ | ⟨-, ev', g⟩
    · exact absurd hx' hx
    · exact ⟨ev'.trans ev.symm, P0.qu (fun k i z => g k i (dj_lg_all_lz_0 z))⟩
theorem pp_156 {t n x y v v' : Int} {a b c : dc_M} (P : lx_P t a) (ht : 0 ≤ t ∧ t ≤ 600) (hn : 0 ≤ n ∧ n ≤ 740) (n1 : a 1 1 = n) (n2 : a 114 2 = n) (h : D_156 x y a v b) (h' : D_230 x y b v' c) : v' = v ∧ lx_P (t + 1) c := by
  have P0 := P
  obtain ⟨T, J, B, ⟨Nn, Bb, V, x1, x2⟩, U, S, N⟩ := P
  rcases cs_156 V x1 h with ⟨hx, ev, X1, f0⟩ | ⟨hx, ev, em⟩
  · have f : ∀ (k : Nat) (i : Int), ¬ lz_s1 k i → b k i = a k i := fun k i z => f0 k i (fun y => z (Or.inl y)) (fun y => z (Or.inr (Or.inl y))) (fun y => z (Or.inr (Or.inr (Or.inl y)))) (fun y => z (Or.inr (Or.inr (Or.inr y))))
    have x2b : bx_R Nn Bb b := x2.cg (fun k i hk => f k i (by unfold lz_s1; omega))
    rcases rs_230 V x2b h' with ⟨-, ev', X2, g0⟩ | ⟨hx', -⟩
    · have g : ∀ (k : Nat) (i : Int), ¬ lz_s2 k i → c k i = b k i := fun k i z => g0 k i (fun y => z (Or.inl y)) (fun y => z (Or.inr (Or.inl y))) (fun y => z (Or.inr (Or.inr (Or.inl y)))) (fun y => z (Or.inr (Or.inr (Or.inr y))))
      have X : lg_X c := ⟨_, _, so_V V, X1.cg (fun k i hk => g k i (by unfold lz_s2; omega)), X2⟩
      exact ⟨ev'.trans ev.symm, lx_P.mk2 (T.go (fun k i z => (g k i (dj_lg_tc_lz_s2 z)).trans (f k i (dj_lg_tc_lz_s1 z)))) (J.go (fun k i z => (g k i (dj_lg_j_lz_s2 z)).trans (f k i (dj_lg_j_lz_s1 z)))) (B.go (fun k i z => (g k i (dj_lg_bc_lz_s2 z)).trans (f k i (dj_lg_bc_lz_s1 z)))) X (U.go (fun k i z => (g k i (dj_lg_uc_lz_s2 z)).trans (f k i (dj_lg_uc_lz_s1 z)))) (lg_e.s S (by omega) (fun k i z => (g k i (dj_lg_sc_lz_s2 z)).trans (f k i (dj_lg_sc_lz_s1 z)))) (Int.le_refl _) (N.go (fun k i z => (g k i (dj_lg_nc_lz_s2 z)).trans (f k i (dj_lg_nc_lz_s1 z))))⟩
    · exact absurd hx hx'
  · subst em
    rcases rs_230 V x2 h' with ⟨hx', -⟩ | ⟨-, ev', g⟩
    · exact absurd hx' hx
    · exact ⟨ev'.trans ev.symm, P0.qu (fun k i z => g k i (dj_lg_all_lz_0 z))⟩
theorem pp_152 {t n x y v v' : Int} {a b c : dc_M} (P : lx_P t a) (ht : 0 ≤ t ∧ t ≤ 600) (hn : 0 ≤ n ∧ n ≤ 740) (n1 : a 1 1 = n) (n2 : a 114 2 = n) (h : D_152 x y a v b) (h' : D_225 x y b v' c) : v' = v ∧ lx_P (t + 1) c := by
  have P0 := P
  have k8 := P.k8
  obtain ⟨T, J, B, ⟨Nn, Bb, V, x1, x2⟩, U, S, N⟩ := P
  obtain ⟨W, w1, w2⟩ := B.2.1
  have hC : 1000000 * t + 320 ≤ 1800000000 := by omega
  rcases cl_run V x1 k8 w1 hC S h with ⟨hx, hy, hne, ev, X1, O1, u1, S1, f⟩ | ⟨hno, ev, em⟩
  · have w2b : rz_V b 0 W := rm_V w2 (fun k i hk => f k i (by unfold cl_t; omega))
    have x2b : bx_R Nn Bb b := x2.cg (fun k i hk => f k i (by unfold cl_t; omega))
    rcases rl_run V x2b w2b h' with ⟨-, -, -, ev', X2, O2, u2, g⟩ | ⟨hno, -⟩
    · have nx := (x1.1 x hx.1 hx.2).2
      have ny := (x1.1 y hy.1 hy.2).2
      have K0 := mp_play.K (W := W) (w := -1) (dk := Bb x) (n := Nn x) (room := 40 - Nn y) nx (by omega)
      have V0 := mp_play.V (W := W) (w := -1) (n := Nn x) (V x) (room := 40 - Nn y) (by omega)
      have X : lg_X c := ⟨_, _, ru_V V (fun i i0 i1 => by
        have q := V0 i i0 i1
        unfold bx_v
        omega), X1.cg (fun k i hk => g k i (by unfold rl_t mr_s; omega)), X2⟩
      have U2 : lg_U c := Or.inr ⟨(g 0 12 (by unfold rl_t mr_s; omega)).trans u1, u2, _, O1.cg (fun k i k0 k1 => g k i (by unfold rl_t mr_s; omega)), O2, K0.1.1, K0.1.2.1.1, by have := K0.1.2.1.2; omega⟩
      exact ⟨ev'.trans ev.symm, lx_P.mk2 (T.go (fun k i z => (g k i (dj_lg_tc_rl_t z)).trans (f k i (dj_lg_tc_cl_t z)))) (J.go (fun k i z => (g k i (dj_lg_j_rl_t z)).trans (f k i (dj_lg_j_cl_t z)))) (B.go (fun k i z => (g k i (dj_lg_bc_rl_t z)).trans (f k i (dj_lg_bc_cl_t z)))) X U2 (lg_e.s S1 (Int.le_refl _) (fun k i z => g k i (dj_lg_sc_rl_t z))) (by omega) (N.go (fun k i z => (g k i (dj_lg_nc_rl_t z)).trans (f k i (dj_lg_nc_cl_t z))))⟩
    · exact absurd ⟨hx, hy, hne⟩ hno
  · subst em
    rcases rl_run V x2 w2 h' with ⟨hx, hy, hne, -⟩ | ⟨-, ev', g⟩
    · exact absurd ⟨hx, hy, hne⟩ hno
    · exact ⟨ev'.trans ev.symm, P0.qu (fun k i z => g k i (dj_lg_all_lz_0 z))⟩
theorem pp_157 {t n x v v' : Int} {a b c : dc_M} (P : lx_P t a) (ht : 0 ≤ t ∧ t ≤ 600) (hn : 0 ≤ n ∧ n ≤ 740) (n1 : a 1 1 = n) (n2 : a 114 2 = n) (h : D_157 x a v b) (h' : D_235 x b v' c) : v' = v ∧ lx_P (t + 1) c := by
  have P0 := P
  have k8 := P.k8
  obtain ⟨T, J, B, ⟨Nn, Bb, V, x1, x2⟩, U, S, N⟩ := P
  obtain ⟨W, w1, w2⟩ := B.2.1
  rcases cm_idle V x1 k8 w1 (by omega) S h with ⟨hx, ev, S1, f⟩ | ⟨hx, ev, em⟩
  · have w2b : rz_V b 0 W := rm_V w2 (fun k i hk => f k i (by unfold cm_ti; omega))
    have x2b : bx_R Nn Bb b := x2.cg (fun k i hk => f k i (by unfold cm_ti; omega))
    rcases rm_idle V x2b w2b h' with ⟨-, ev', g⟩ | ⟨hx', -⟩
    · exact ⟨ev'.trans ev.symm, lx_P.mk2 (T.go (fun k i z => (g k i (dj_lg_tc_rm_fi z)).trans (f k i (dj_lg_tc_cm_ti z)))) (J.go (fun k i z => (g k i (dj_lg_j_rm_fi z)).trans (f k i (dj_lg_j_cm_ti z)))) (B.go (fun k i z => (g k i (dj_lg_bc_rm_fi z)).trans (f k i (dj_lg_bc_cm_ti z)))) (lg_X.go ⟨Nn, Bb, V, x1, x2⟩ (fun k i z => (g k i (dj_lg_xc_rm_fi z)).trans (f k i (dj_lg_xc_cm_ti z)))) (U.go (fun k i z => (g k i (dj_lg_uc_rm_fi z)).trans (f k i (dj_lg_uc_cm_ti z)))) (lg_e.s S1 (Int.le_refl _) (fun k i z => g k i (dj_lg_sc_rm_fi z))) (by omega) (N.go (fun k i z => (g k i (dj_lg_nc_rm_fi z)).trans (f k i (dj_lg_nc_cm_ti z))))⟩
    · exact absurd hx hx'
  · subst em
    rcases rm_idle V x2 w2 h' with ⟨hx', -⟩ | ⟨-, ev', g⟩
    · exact absurd hx' hx
    · exact ⟨ev'.trans ev.symm, P0.qu (fun k i z => g k i (dj_lg_all_lz_0 z))⟩
theorem pp_158 {t n x v v' : Int} {a b c : dc_M} (P : lx_P t a) (ht : 0 ≤ t ∧ t ≤ 600) (hn : 0 ≤ n ∧ n ≤ 740) (n1 : a 1 1 = n) (n2 : a 114 2 = n) (h : D_158 x a v b) (h' : D_238 x b v' c) : lx_P (t + 1) c := by
  have P0 := P
  have k8 := P.k8
  obtain ⟨T, J, B, ⟨Nn, Bb, V, x1, x2⟩, U, S, N⟩ := P
  obtain ⟨W, w1, w2⟩ := B.2.1
  obtain ⟨S1, f⟩ := cv_158 V x1 k8 w1 (by omega) S (by rw [n1]; exact hn.1) h
  have w2b : rz_V b 0 W := rm_V w2 (fun k i hk => f k i (by unfold cv_t; omega))
  have x2b : bx_R Nn Bb b := x2.cg (fun k i hk => f k i (by unfold cv_t; omega))
  have g := rv_238 V x2b w2b h'
  exact lx_P.mk2 (T.go (fun k i z => (g k i (dj_lg_tc_rv_t z)).trans (f k i (dj_lg_tc_cv_t z)))) (J.go (fun k i z => (g k i (dj_lg_j_rv_t z)).trans (f k i (dj_lg_j_cv_t z)))) (B.go (fun k i z => (g k i (dj_lg_bc_rv_t z)).trans (f k i (dj_lg_bc_cv_t z)))) (lg_X.go ⟨Nn, Bb, V, x1, x2⟩ (fun k i z => (g k i (dj_lg_xc_rv_t z)).trans (f k i (dj_lg_xc_cv_t z)))) (U.go (fun k i z => (g k i (dj_lg_uc_rv_t z)).trans (f k i (dj_lg_uc_cv_t z)))) (lg_e.s S1 (Int.le_refl _) (fun k i z => g k i (dj_lg_sc_rv_t z))) (by omega) (N.go (fun k i z => (g k i (dj_lg_nc_rv_t z)).trans (f k i (dj_lg_nc_cv_t z))))
theorem pp_174 {t n x v v' : Int} {a b c : dc_M} (P : lx_P t a) (ht : 0 ≤ t ∧ t ≤ 600) (hn : 0 ≤ n ∧ n ≤ 740) (n1 : a 1 1 = n) (n2 : a 114 2 = n) (h : D_174 x a v b) (h' : D_246 x b v' c) : lx_P (t + 1) c := by
  have P0 := P
  have k8 := P.k8
  obtain ⟨T, J, B, ⟨Nn, Bb, V, x1, x2⟩, U, S, N⟩ := P
  obtain ⟨W, w1, w2⟩ := B.2.1
  obtain ⟨S1, f⟩ := cv_174 V x1 k8 w1 (by omega) S (by rw [n1]; exact hn.1) h
  have w2b : rz_V b 0 W := rm_V w2 (fun k i hk => f k i (by unfold cv_t; omega))
  have x2b : bx_R Nn Bb b := x2.cg (fun k i hk => f k i (by unfold cv_t; omega))
  have g := rv_246 V x2b w2b h'
  exact lx_P.mk2 (T.go (fun k i z => (g k i (dj_lg_tc_rv_t z)).trans (f k i (dj_lg_tc_cv_t z)))) (J.go (fun k i z => (g k i (dj_lg_j_rv_t z)).trans (f k i (dj_lg_j_cv_t z)))) (B.go (fun k i z => (g k i (dj_lg_bc_rv_t z)).trans (f k i (dj_lg_bc_cv_t z)))) (lg_X.go ⟨Nn, Bb, V, x1, x2⟩ (fun k i z => (g k i (dj_lg_xc_rv_t z)).trans (f k i (dj_lg_xc_cv_t z)))) (U.go (fun k i z => (g k i (dj_lg_uc_rv_t z)).trans (f k i (dj_lg_uc_cv_t z)))) (lg_e.s S1 (Int.le_refl _) (fun k i z => g k i (dj_lg_sc_rv_t z))) (by omega) (N.go (fun k i z => (g k i (dj_lg_nc_rv_t z)).trans (f k i (dj_lg_nc_cv_t z))))
theorem pp_160 {t n x v v' : Int} {a b c : dc_M} (P : lx_P t a) (ht : 0 ≤ t ∧ t ≤ 600) (hn : 0 ≤ n ∧ n ≤ 740) (n1 : a 1 1 = n) (n2 : a 114 2 = n) (h : D_160 x a v b) (h' : D_240 x b v' c) : v' = v ∧ lx_P (t + 1) c := by
  have P0 := P
  have k8 := P.k8
  obtain ⟨T, J, B, ⟨Nn, Bb, V, x1, x2⟩, U, S, N⟩ := P
  obtain ⟨W, w1, w2⟩ := B.2.1
  rcases ct_tests V x1 k8 w1 (by omega) S h with ⟨hx, q, hq, ev, a8, a9, S1, f⟩ | ⟨hx, ev, em⟩
  · have w2b : rz_V b 0 W := rm_V w2 (fun k i hk => f k i (by unfold ct_t; omega))
    have x2b : bx_R Nn Bb b := x2.cg (fun k i hk => f k i (by unfold ct_t; omega))
    rcases rt_tests V x2b w2b h' with ⟨-, q', hq', ev', b8, b9, g⟩ | ⟨hx', -⟩
    · have eq : q' = q := hq'.trans hq.symm
      subst eq
      have N2 : lg_N c := by
        refine ⟨N.un ((g 29 11 (by unfold rt_f mr_s; omega)).trans (f 29 11 (by unfold ct_t; omega))) ((g 114 54 (by unfold rt_f mr_s; omega)).trans (f 114 54 (by unfold ct_t; omega))) (fun j => (g 44 j (by unfold rt_f mr_s; omega)).trans (f 44 j (by unfold ct_t; omega))) (fun j => (g 144 j (by unfold rt_f mr_s; omega)).trans (f 144 j (by unfold ct_t; omega))), ⟨?_, ?_⟩, ?_⟩
        · rw [b8, g 29 8 (by unfold rt_f mr_s; omega), a8]
        · rw [b9, g 29 9 (by unfold rt_f mr_s; omega), a9]
        · rw [g 0 13 (by unfold rt_f mr_s; omega), g 114 47 (by unfold rt_f mr_s; omega), f 0 13 (by unfold ct_t; omega), f 114 47 (by unfold ct_t; omega)]; exact N.2.2
      exact ⟨ev'.trans ev.symm, lx_P.mk2 (T.go (fun k i z => (g k i (dj_lg_tc_rt_f z)).trans (f k i (dj_lg_tc_ct_t z)))) (J.go (fun k i z => (g k i (dj_lg_j_rt_f z)).trans (f k i (dj_lg_j_ct_t z)))) (B.go (fun k i z => (g k i (dj_lg_bc_rt_f z)).trans (f k i (dj_lg_bc_ct_t z)))) (lg_X.go ⟨Nn, Bb, V, x1, x2⟩ (fun k i z => (g k i (dj_lg_xc_rt_f z)).trans (f k i (dj_lg_xc_ct_t z)))) (U.go (fun k i z => (g k i (dj_lg_uc_rt_f z)).trans (f k i (dj_lg_uc_ct_t z)))) (lg_e.s S1 (Int.le_refl _) (fun k i z => g k i (dj_lg_sc_rt_f z))) (by omega) N2⟩
    · exact absurd hx hx'
  · subst em
    rcases rt_tests V x2 w2 h' with ⟨hx', -⟩ | ⟨-, ev', g⟩
    · exact absurd hx' hx
    · exact ⟨ev'.trans ev.symm, P0.qu (fun k i z => g k i (dj_lg_all_lz_0 z))⟩
theorem pp_172 {t n x v v' : Int} {a b c : dc_M} (P : lx_P t a) (ht : 0 ≤ t ∧ t ≤ 600) (hn : 0 ≤ n ∧ n ≤ 740) (n1 : a 1 1 = n) (n2 : a 114 2 = n) (h : D_172 x a v b) (h' : D_243 x b v' c) : v' = v ∧ lx_P (t + 1) c := by
  have P0 := P
  have k8 := P.k8
  obtain ⟨T, J, B, ⟨Nn, Bb, V, x1, x2⟩, U, S, N⟩ := P
  obtain ⟨W, w1, w2⟩ := B.2.1
  rcases cm_uns V x1 k8 w1 (by omega) S h with ⟨hx, q, hq, ev, a8, a9, S1, f⟩ | ⟨hx, ev, em⟩
  · have w2b : rz_V b 0 W := rm_V w2 (fun k i hk => f k i (by unfold cm_t; omega))
    have x2b : bx_R Nn Bb b := x2.cg (fun k i hk => f k i (by unfold cm_t; omega))
    rcases rm_uns V x2b w2b h' with ⟨-, q', hq', ev', b8, b9, g⟩ | ⟨hx', -⟩
    · have eq : q' = q := hq'.trans hq.symm
      subst eq
      have nx := (x1.1 x hx.1 hx.2).2
      have q0 : 0 ≤ q' ∧ q' ≤ 40 := by
        rw [hq]
        by_cases y : Nn x ≤ 1
        · rw [if_pos y]; omega
        · rw [if_neg y]; omega
      have N2 : lg_N c := by
        have gg : c 29 11 = b 29 11 := g 29 11 (by unfold rm_f mr_s; omega)
        refine ⟨⟨by rw [gg, a8, b8], ?_, fun j j0 j1 => ?_⟩, ⟨?_, ?_⟩, ?_⟩
        · rw [gg, a8]
          have := nt_c_r (b := mm_u W (Bb x) (Nn x)) q0.1
          omega
        · rw [gg, a8] at j1
          rw [g 44 j (by unfold rm_f mr_s; omega)]
          have j1' : j < nt_c (mm_u W (Bb x) (Nn x)) ((q'.toNat : Nat) : Int) := by rw [show ((q'.toNat : Nat) : Int) = q' by omega]; exact j1
          obtain ⟨k, k0, k1, k2, k3⟩ := nt_c_su q'.toNat j j0 j1'
          have k1' : k < q' := by omega
          rw [← k3, a9 k k0 k1' k2, b9 k k0 k1' k2]
        · rw [g 29 8 (by unfold rm_f mr_s; omega), g 114 56 (by unfold rm_f mr_s; omega), f 29 8 (by unfold cm_t; omega), f 114 56 (by unfold cm_t; omega)]; exact N.2.1.1
        · rw [g 29 9 (by unfold rm_f mr_s; omega), g 114 57 (by unfold rm_f mr_s; omega), f 29 9 (by unfold cm_t; omega), f 114 57 (by unfold cm_t; omega)]; exact N.2.1.2
        · rw [g 0 13 (by unfold rm_f mr_s; omega), g 114 47 (by unfold rm_f mr_s; omega), f 0 13 (by unfold cm_t; omega), f 114 47 (by unfold cm_t; omega)]; exact N.2.2
      exact ⟨ev'.trans ev.symm, lx_P.mk2 (T.go (fun k i z => (g k i (dj_lg_tc_rm_f z)).trans (f k i (dj_lg_tc_cm_t z)))) (J.go (fun k i z => (g k i (dj_lg_j_rm_f z)).trans (f k i (dj_lg_j_cm_t z)))) (B.go (fun k i z => (g k i (dj_lg_bc_rm_f z)).trans (f k i (dj_lg_bc_cm_t z)))) (lg_X.go ⟨Nn, Bb, V, x1, x2⟩ (fun k i z => (g k i (dj_lg_xc_rm_f z)).trans (f k i (dj_lg_xc_cm_t z)))) (U.go (fun k i z => (g k i (dj_lg_uc_rm_f z)).trans (f k i (dj_lg_uc_cm_t z)))) (lg_e.s S1 (Int.le_refl _) (fun k i z => g k i (dj_lg_sc_rm_f z))) (by omega) N2⟩
    · exact absurd hx hx'
  · subst em
    rcases rm_uns V x2 w2 h' with ⟨hx', -⟩ | ⟨-, ev', g⟩
    · exact absurd hx' hx
    · exact ⟨ev'.trans ev.symm, P0.qu (fun k i z => g k i (dj_lg_all_lz_0 z))⟩
theorem pp_170 {t n x v v' : Int} {a b c : dc_M} (P : lx_P t a) (ht : 0 ≤ t ∧ t ≤ 600) (hn : 0 ≤ n ∧ n ≤ 740) (n1 : a 1 1 = n) (n2 : a 114 2 = n) (h : D_170 x a v b) (h' : D_233 x b v' c) : v' = v ∧ lx_P (t + 1) c := by
  obtain ⟨T, J, B, ⟨Nn, Bb, V, x1, x2⟩, U, S, N⟩ := P
  obtain ⟨-, f0, q⟩ := cs_needed V x1 (by rw [n1]; exact hn) h
  have f : ∀ (k : Nat) (i : Int), ¬ lz_n1 k i → b k i = a k i := fun k i z => f0 k i (fun y => z (Or.inl y)) (fun y => z (Or.inr (Or.inl y))) (fun y => z (Or.inr (Or.inr (Or.inl y)))) (fun y => z (Or.inr (Or.inr (Or.inr (Or.inl y))))) (fun y => z (Or.inr (Or.inr (Or.inr (Or.inr y)))))
  have e2 : b 114 2 = n := (f 114 2 (by unfold lz_n1; omega)).trans n2
  have x2b : bx_R Nn Bb b := x2.cg (fun k i hk => f k i (by unfold lz_n1; omega))
  obtain ⟨-, g0, q'⟩ := rs_needed V x2b (by rw [e2]; exact hn) h'
  have g : ∀ (k : Nat) (i : Int), ¬ lz_n2 k i → c k i = b k i := fun k i z => g0 k i (fun y => z (Or.inl y)) (fun y => z (Or.inr (Or.inl y))) (fun y => z (Or.inr (Or.inr y)))
  have et : rz_t b = a 2 := by
    rw [T.1]
    exact rz_t_e (funext fun i => f 115 i (by unfold lz_n1; omega))
  rw [et, e2] at q'
  rw [n1] at q
  have fin : c 0 13 = c 114 47 → lx_P (t + 1) c := fun e => by
    have N2 : lg_N c := by
      refine ⟨N.un ((g 29 11 (by unfold lz_n2; omega)).trans (f 29 11 (by unfold lz_n1; omega))) ((g 114 54 (by unfold lz_n2; omega)).trans (f 114 54 (by unfold lz_n1; omega))) (fun j => (g 44 j (by unfold lz_n2; omega)).trans (f 44 j (by unfold lz_n1; omega))) (fun j => (g 144 j (by unfold lz_n2; omega)).trans (f 144 j (by unfold lz_n1; omega))), ⟨?_, ?_⟩, e⟩
      · rw [g 29 8 (by unfold lz_n2; omega), g 114 56 (by unfold lz_n2; omega), f 29 8 (by unfold lz_n1; omega), f 114 56 (by unfold lz_n1; omega)]; exact N.2.1.1
      · rw [g 29 9 (by unfold lz_n2; omega), g 114 57 (by unfold lz_n2; omega), f 29 9 (by unfold lz_n1; omega), f 114 57 (by unfold lz_n1; omega)]; exact N.2.1.2
    exact lx_P.mk2 (T.go (fun k i z => (g k i (dj_lg_tc_lz_n2 z)).trans (f k i (dj_lg_tc_lz_n1 z)))) (J.go (fun k i z => (g k i (dj_lg_j_lz_n2 z)).trans (f k i (dj_lg_j_lz_n1 z)))) (B.go (fun k i z => (g k i (dj_lg_bc_lz_n2 z)).trans (f k i (dj_lg_bc_lz_n1 z)))) (lg_X.go ⟨Nn, Bb, V, x1, x2⟩ (fun k i z => (g k i (dj_lg_xc_lz_n2 z)).trans (f k i (dj_lg_xc_lz_n1 z)))) (U.go (fun k i z => (g k i (dj_lg_uc_lz_n2 z)).trans (f k i (dj_lg_uc_lz_n1 z)))) (lg_e.s S (by omega) (fun k i z => (g k i (dj_lg_sc_lz_n2 z)).trans (f k i (dj_lg_sc_lz_n1 z)))) (Int.le_refl _) N2
  have gc : c 0 13 = b 0 13 := g 0 13 (by unfold lz_n2; omega)
  rcases q with ⟨hx, hc, L, hL, ev, e1⟩ | ⟨hc, ev, e1⟩
  · rcases q' with ⟨-, -, L', hL', ev', e1'⟩ | ⟨hc', -⟩
    · have eL : L' = L := by omega
      subst eL
      exact ⟨ev'.trans ev.symm, fin (by rw [gc, e1, e1'])⟩
    · exact absurd ⟨hx, hc⟩ hc'
  · rcases q' with ⟨hx', hc', -⟩ | ⟨-, ev', e1'⟩
    · exact absurd ⟨hx', hc'⟩ hc
    · exact ⟨ev'.trans ev.symm, fin (by rw [gc, e1, e1', f 114 47 (by unfold lz_n1; omega)]; exact N.2.2)⟩
theorem pp_164 {t n v v' : Int} {a b c : dc_M} (P : lx_P t a) (ht : 0 ≤ t ∧ t ≤ 600) (hn : 0 ≤ n ∧ n ≤ 740) (n1 : a 1 1 = n) (n2 : a 114 2 = n) (h : D_164 a v b) (h' : D_262 b v' c) : v' = v ∧ lx_P (t + 1) c := by
  have f := fc_164 h
  have g := fj_262 h'
  refine ⟨?_, P.qu (fun k i z => (g k i (dj_lg_all_fj_t z)).trans (f k i (dj_lg_all_fc_t z)))⟩
  obtain ⟨t2, z, J, okJ, cJ, rJ, nJ⟩ := P.2.1
  obtain ⟨m3, e3, v4, m4, h4, ev, -⟩ := h'
  rw [ev]
  exact pn_runs okJ nJ h h4 (rJ.go (fun k i p1 p2 => by rw [e3, dc_up_k (by omega)]; exact f k i (by unfold fc_t; omega)))
theorem pp_165 {t n x v v' : Int} {a b c : dc_M} (P : lx_P t a) (ht : 0 ≤ t ∧ t ≤ 600) (hn : 0 ≤ n ∧ n ≤ 740) (n1 : a 1 1 = n) (n2 : a 114 2 = n) (h : D_165 x a v b) (h' : D_264 x b v' c) : v' = v ∧ lx_P (t + 1) c := by
  have f := fc_165 h
  have g := fj_264 h'
  refine ⟨?_, P.qu (fun k i z => (g k i (dj_lg_all_fj_t z)).trans (f k i (dj_lg_all_fc_t z)))⟩
  obtain ⟨t2, z, J, okJ, cJ, rJ, nJ⟩ := P.2.1
  obtain ⟨m3, e3, v4, m4, h4, ev, -⟩ := h'
  rw [ev]
  exact pn_wants okJ nJ h h4 (rJ.go (fun k i p1 p2 => by rw [e3, dc_up_k (by omega)]; exact f k i (by unfold fc_t; omega)))
