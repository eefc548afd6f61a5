theorem t_all : t_ok u_mt u_cd := sorry
