/-! THE LAW RUN BY THE KERNEL: station -/
theorem sr_op11_5 : sm_run s_no sc_meth 40000 (s_env1 2147483661 2147483663 2147483654 2147483654 2147483659 2147483659) (271, 18, sc_l18, sKL, []) [] sh0 = true := by decide +kernel
theorem sr_op11_6 : sm_run s_no sc_meth 40000 (s_env1 2147483664 2147483666 2147483654 2147483654 2147483659 2147483659) (271, 18, sc_l18, sKL, []) [] sh0 = true := by decide +kernel
theorem sr_op11_7 : sm_run s_no sc_meth 40000 (s_env1 2147483667 2147483669 2147483654 2147483654 2147483659 2147483659) (271, 18, sc_l18, sKL, []) [] sh0 = true := by decide +kernel
theorem sr_op11_8 : sm_run s_no sc_meth 40000 (s_env1 2147483670 2147483672 2147483654 2147483654 2147483659 2147483659) (271, 18, sc_l18, sKL, []) [] sh0 = true := by decide +kernel
theorem sr_op11_9 : sm_run s_no sc_meth 40000 (s_env1 2147483673 2147483675 2147483654 2147483654 2147483659 2147483659) (271, 18, sc_l18, sKL, []) [] sh0 = true := by decide +kernel
